/-! The class: what is left of a point; where it leads -/
/-- of point k is left s, its steps from a on -/
def zKp (h : zM) (k : Nat) (s : zLs) (a : Int) : Prop := h 37 (k : Int) = a ∧ h 38 (k : Int) = (s.2.1 : Int) ∧ h 36 8 = a + (s.2.1 : Int) ∧ (∀ i w : Nat, i < s.2.1 → w < 5 → h 43 ((a + (i : Int)) * 5 + (w : Int)) = s.2.2 i w) ∧ ∀ v, 0 ≤ v → v < 6 → h 58 v = s.1 v
def zJf (k : Nat) (a : Int) : Nat → Int → Bool := fun r j => Nat.beq r 58 || (Nat.beq r 36 && decide (j = 8)) || (Nat.beq r 38 && decide (j = (k : Int))) || (Nat.beq r 43 && decide (a * 5 ≤ j))
theorem zJf_A {k : Nat} {a s : Int} (hs : a ≤ s) {h h2 : zM} (hF : zF (zAf 36 (k : Int) s) h h2) : zF (zJf k a) h h2 := hF.mono (fun r j hf => by
  unfold zJf at hf
  unfold zAf
  simp only [Bool.or_eq_false_iff, Bool.and_eq_false_iff, decide_eq_false_iff_not] at hf ⊢
  obtain ⟨⟨⟨h1, h2⟩, h3⟩, h4⟩ := hf
  refine ⟨⟨h2, h3⟩, ?_⟩
  rcases h4 with h4 | h4
  · exact Or.inl (Or.inl h4)
  · exact Or.inl (Or.inr (by omega)))
set_option maxHeartbeats 4000000 in
set_option maxRecDepth 100000 in
/-- Points.doOrLeave -/
theorem s_156 {h : zM} {u : Nat} (hu : u < 64) (hd : h 53 1 = (u : Int)) {x : Int} {t : Nat → Int} (hx : zSp h 12 x t) (ht : zWS t) (hkn : zKn u t) {k : Nat} {s : zLs} {a : Int} {n : Nat} (hp : zKp h k s a) (hs : zLo s n) (hn : n ≤ 24) (ha : 0 ≤ a) (ha2 : a + (s.2.1 : Int) < 960) (h7 : (k : Int) < h 36 7 ∧ h 36 7 ≤ 40) {Q : zQ} (hq : ∀ h2, zF (zJf k a) h h2 → zKp h2 k (zlv1 u t s) a → Q none h2) : zR 156 [.inr (.inr 52), .inr (.inr 12), .inl (k : Int), .inl x] h Q := by
  have ht2 := ht
  unfold zWS at ht2
  obtain ⟨p1, p2, p3, p4, p5⟩ := hp
  have s36 : zWs 36 = 960 := rfl
  have hs2 := hs.2.1
  refine zx_met0 zk_156 (Or.inr ⟨_, _, rfl, rfl⟩) (Nat.le_of_ble_eq_true rfl) 1000 (fun hok hM => ?_)
  refine s_199t (by unfold zWb; omega) hx 0 (by omega) ?_
  refine s_199t (by unfold zWb; omega) hx 1 (by omega) ?_
  refine s_199t (by unfold zWb; omega) hx 3 (by omega) ?_
  refine s_199t (by unfold zWb; omega) hx 2 (by omega) ?_
  refine s_157 hu hd p5 (by omega) ?_
  refine s_199t (by unfold zWb; omega) hx 4 (by omega) ?_
  refine s_157 hu hd p5 (by omega) ?_
  constructor
  · intro c1
    refine s_38 (fun v1 => ?_) (fun v1 => ?_)
    · refine And.intro (fun c => absurd c (by decide)) (fun _ => ?_)
      have hz := zB_bit u hu (t 1).toNat (by omega)
      rw [Int.toNat_of_nonneg (by omega), ← hd] at hz
      refine s_43 (fun b1 => ?_) (fun b1 => ?_)
      · refine And.intro (fun c => absurd c (by decide)) (fun _ => ?_)
        refine s_194 (Or.inr rfl) (t := zns u s.1 t) (s := a + (s.2.1 : Int)) rfl rfl rfl rfl rfl h7.2 ⟨by omega, h7.1⟩ p3 (by omega) (by show 0 ≤ h 38 (k : Int) ∧ h 38 (k : Int) ≤ 1000; omega) (fun h3 hG g8 g2 gt => ?_)
        first
        | (have hz2 : zlv1 u t s = ((fun j => if j = t 1 then zres (t 3) (zlo u s.1 (t 2)) (zlo u s.1 (t 4)) else s.1 j), s.2.1, s.2.2) := by
             unfold zlv1
             rw [if_pos ⟨by omega, hz.mp b1⟩]
           refine hq _ (zF.rf.st rfl) ?_
           rw [hz2]
           refine ⟨p1, p2, p3, p4, fun v h0 h6 => ?_⟩
           show _ = if v = t 1 then _ else s.1 v
           by_cases e : v = t 1
           · rw [if_pos e, e]; exact zst_eq _ _ _ _
           · rw [if_neg e, zst_ne e]; exact p5 v h0 h6)
        | (have hz2 : zlv1 u t s = (s.1, s.2.1 + 1, fun i => if i = s.2.1 then zns u s.1 t else s.2.2 i) := by
             unfold zlv1
             rw [if_neg]
             rintro ⟨q1, q2⟩
             first
             | omega
             | exact b1 (hz.mpr q2)
           refine hq _ (zJf_A (by omega) hG) ?_
           rw [hz2]
           have f37 : h3 37 (k : Int) = h 37 (k : Int) := hG _ _ rfl
           refine ⟨f37.trans p1, ?_, ?_, fun i w hi hw => ?_, fun v h0 h6 => (hG _ _ rfl).trans (p5 v h0 h6)⟩
           · have g2 : h3 38 (k : Int) = h 38 (k : Int) + 1 := g2
             show h3 38 (k : Int) = ((s.2.1 + 1 : Nat) : Int)
             omega
           · show h3 36 8 = a + ((s.2.1 + 1 : Nat) : Int)
             omega
           · have hi : i < s.2.1 + 1 := hi
             show _ = (if i = s.2.1 then zns u s.1 t else s.2.2 i) w
             by_cases e : i = s.2.1
             · rw [if_pos e, e]
               exact gt w hw
             · rw [if_neg e, hG 43 _ ?_]
               · exact p4 i w (by omega) hw
               · unfold zAf
                 have d1 : decide ((a + (s.2.1 : Int)) * 5 ≤ (a + (i : Int)) * 5 + (w : Int)) = false := decide_eq_false (by omega)
                 rw [d1]
                 rfl)
      · refine And.intro (fun _ => ?_) (fun c => absurd (by decide) c)
        obtain ⟨k2, k4⟩ := hkn (by omega) (hz.mp b1)
        refine s_47 (zlo_k hs.1 (by omega) k2).2 (zlo_k hs.1 (by omega) k4).2 ?_
        refine And.intro (by show 0 ≤ _ ∧ _ < (6 : Int); omega) ?_
        first
        | (have hz2 : zlv1 u t s = ((fun j => if j = t 1 then zres (t 3) (zlo u s.1 (t 2)) (zlo u s.1 (t 4)) else s.1 j), s.2.1, s.2.2) := by
             unfold zlv1
             rw [if_pos ⟨by omega, hz.mp b1⟩]
           refine hq _ (zF.rf.st rfl) ?_
           rw [hz2]
           refine ⟨p1, p2, p3, p4, fun v h0 h6 => ?_⟩
           show _ = if v = t 1 then _ else s.1 v
           by_cases e : v = t 1
           · rw [if_pos e, e]; exact zst_eq _ _ _ _
           · rw [if_neg e, zst_ne e]; exact p5 v h0 h6)
        | (have hz2 : zlv1 u t s = (s.1, s.2.1 + 1, fun i => if i = s.2.1 then zns u s.1 t else s.2.2 i) := by
             unfold zlv1
             rw [if_neg]
             rintro ⟨q1, q2⟩
             first
             | omega
             | exact b1 (hz.mpr q2)
           refine hq _ (zJf_A (by omega) hG) ?_
           rw [hz2]
           have f37 : h3 37 (k : Int) = h 37 (k : Int) := hG _ _ rfl
           refine ⟨f37.trans p1, ?_, ?_, fun i w hi hw => ?_, fun v h0 h6 => (hG _ _ rfl).trans (p5 v h0 h6)⟩
           · have g2 : h3 38 (k : Int) = h 38 (k : Int) + 1 := g2
             show h3 38 (k : Int) = ((s.2.1 + 1 : Nat) : Int)
             omega
           · show h3 36 8 = a + ((s.2.1 + 1 : Nat) : Int)
             omega
           · have hi : i < s.2.1 + 1 := hi
             show _ = (if i = s.2.1 then zns u s.1 t else s.2.2 i) w
             by_cases e : i = s.2.1
             · rw [if_pos e, e]
               exact gt w hw
             · rw [if_neg e, hG 43 _ ?_]
               · exact p4 i w (by omega) hw
               · unfold zAf
                 have d1 : decide ((a + (s.2.1 : Int)) * 5 ≤ (a + (i : Int)) * 5 + (w : Int)) = false := decide_eq_false (by omega)
                 rw [d1]
                 rfl)
    · refine And.intro (fun _ => ?_) (fun c => absurd (by decide) c)
      refine s_194 (Or.inr rfl) (t := zns u s.1 t) (s := a + (s.2.1 : Int)) rfl rfl rfl rfl rfl h7.2 ⟨by omega, h7.1⟩ p3 (by omega) (by show 0 ≤ h 38 (k : Int) ∧ h 38 (k : Int) ≤ 1000; omega) (fun h3 hG g8 g2 gt => ?_)
      first
      | (have hz2 : zlv1 u t s = ((fun j => if j = t 1 then zres (t 3) (zlo u s.1 (t 2)) (zlo u s.1 (t 4)) else s.1 j), s.2.1, s.2.2) := by
           unfold zlv1
           rw [if_pos ⟨by omega, hz.mp b1⟩]
         refine hq _ (zF.rf.st rfl) ?_
         rw [hz2]
         refine ⟨p1, p2, p3, p4, fun v h0 h6 => ?_⟩
         show _ = if v = t 1 then _ else s.1 v
         by_cases e : v = t 1
         · rw [if_pos e, e]; exact zst_eq _ _ _ _
         · rw [if_neg e, zst_ne e]; exact p5 v h0 h6)
      | (have hz2 : zlv1 u t s = (s.1, s.2.1 + 1, fun i => if i = s.2.1 then zns u s.1 t else s.2.2 i) := by
           unfold zlv1
           rw [if_neg]
           rintro ⟨q1, q2⟩
           first
           | omega
           | exact b1 (hz.mpr q2)
         refine hq _ (zJf_A (by omega) hG) ?_
         rw [hz2]
         have f37 : h3 37 (k : Int) = h 37 (k : Int) := hG _ _ rfl
         refine ⟨f37.trans p1, ?_, ?_, fun i w hi hw => ?_, fun v h0 h6 => (hG _ _ rfl).trans (p5 v h0 h6)⟩
         · have g2 : h3 38 (k : Int) = h 38 (k : Int) + 1 := g2
           show h3 38 (k : Int) = ((s.2.1 + 1 : Nat) : Int)
           omega
         · show h3 36 8 = a + ((s.2.1 + 1 : Nat) : Int)
           omega
         · have hi : i < s.2.1 + 1 := hi
           show _ = (if i = s.2.1 then zns u s.1 t else s.2.2 i) w
           by_cases e : i = s.2.1
           · rw [if_pos e, e]
             exact gt w hw
           · rw [if_neg e, hG 43 _ ?_]
             · exact p4 i w (by omega) hw
             · unfold zAf
               have d1 : decide ((a + (s.2.1 : Int)) * 5 ≤ (a + (i : Int)) * 5 + (w : Int)) = false := decide_eq_false (by omega)
               rw [d1]
               rfl)
  · intro c1
    refine s_194 (Or.inr rfl) (t := zns u s.1 t) (s := a + (s.2.1 : Int)) rfl rfl rfl rfl rfl h7.2 ⟨by omega, h7.1⟩ p3 (by omega) (by show 0 ≤ h 38 (k : Int) ∧ h 38 (k : Int) ≤ 1000; omega) (fun h3 hG g8 g2 gt => ?_)
    first
    | (have hz2 : zlv1 u t s = ((fun j => if j = t 1 then zres (t 3) (zlo u s.1 (t 2)) (zlo u s.1 (t 4)) else s.1 j), s.2.1, s.2.2) := by
         unfold zlv1
         rw [if_pos ⟨by omega, hz.mp b1⟩]
       refine hq _ (zF.rf.st rfl) ?_
       rw [hz2]
       refine ⟨p1, p2, p3, p4, fun v h0 h6 => ?_⟩
       show _ = if v = t 1 then _ else s.1 v
       by_cases e : v = t 1
       · rw [if_pos e, e]; exact zst_eq _ _ _ _
       · rw [if_neg e, zst_ne e]; exact p5 v h0 h6)
    | (have hz2 : zlv1 u t s = (s.1, s.2.1 + 1, fun i => if i = s.2.1 then zns u s.1 t else s.2.2 i) := by
         unfold zlv1
         rw [if_neg]
         rintro ⟨q1, q2⟩
         first
         | omega
         | exact b1 (hz.mpr q2)
       refine hq _ (zJf_A (by omega) hG) ?_
       rw [hz2]
       have f37 : h3 37 (k : Int) = h 37 (k : Int) := hG _ _ rfl
       refine ⟨f37.trans p1, ?_, ?_, fun i w hi hw => ?_, fun v h0 h6 => (hG _ _ rfl).trans (p5 v h0 h6)⟩
       · have g2 : h3 38 (k : Int) = h 38 (k : Int) + 1 := g2
         show h3 38 (k : Int) = ((s.2.1 + 1 : Nat) : Int)
         omega
       · show h3 36 8 = a + ((s.2.1 + 1 : Nat) : Int)
         omega
       · have hi : i < s.2.1 + 1 := hi
         show _ = (if i = s.2.1 then zns u s.1 t else s.2.2 i) w
         by_cases e : i = s.2.1
         · rw [if_pos e, e]
           exact gt w hw
         · rw [if_neg e, hG 43 _ ?_]
           · exact p4 i w (by omega) hw
           · unfold zAf
             have d1 : decide ((a + (s.2.1 : Int)) * 5 ≤ (a + (i : Int)) * 5 + (w : Int)) = false := decide_eq_false (by omega)
             rw [d1]
             rfl)
/-- all that the class's points may change -/
def zQf : Nat → Int → Bool := fun r j => (Nat.ble 36 r && Nat.ble r 43) || (Nat.ble 55 r && Nat.ble r 59) || (Nat.beq r 52 && decide (j = 5))
theorem zQf_Y {n : Int} {h h2 : zM} (hF : zF (zYf n) h h2) : zF zQf h h2 := hF.mono (fun r j hf => by
  unfold zQf at hf
  unfold zYf zOf
  simp only [Bool.or_eq_false_iff, Bool.and_eq_false_iff] at hf ⊢
  obtain ⟨⟨h1, h2⟩, h3⟩ := hf
  have g1 : ∀ q : Nat, 55 ≤ q → q ≤ 59 → Nat.beq r q = false := by
    intro q q1 q2
    refine zbeq_ne (fun e => ?_)
    subst e
    rcases h2 with h2 | h2
    · have := Nat.ble_eq.mpr q1; rw [h2] at this; cases this
    · have := Nat.ble_eq.mpr q2; rw [h2] at this; cases this
  have g2 : r < 36 ∨ 43 < r := by
    rcases h1 with h1 | h1
    · left
      apply Nat.lt_of_not_le
      intro q
      have := Nat.ble_eq.mpr q
      rw [h1] at this
      cases this
    · right
      apply Nat.lt_of_not_le
      intro q
      have := Nat.ble_eq.mpr q
      rw [h1] at this
      cases this
  refine ⟨⟨⟨⟨⟨g1 55 (by omega) (by omega), g1 56 (by omega) (by omega)⟩, g1 57 (by omega) (by omega)⟩, g1 59 (by omega) (by omega)⟩, h3⟩, Or.inl (zbeq_ne (by omega)), ?_⟩
  left
  rcases g2 with g2 | g2
  · left
    cases e : Nat.ble (36 + 1) r
    · rfl
    · have := Nat.ble_eq.mp e; omega
  · right
    cases e : Nat.ble r (36 + 6)
    · rfl
    · have := Nat.ble_eq.mp e; omega)
theorem zKp.Y {h h2 : zM} {k : Nat} {s : zLs} {a n : Int} (hp : zKp h k s a) (hk : (k : Int) ≠ n) (hF : zF (zYf n) h h2) : zKp h2 k s a := by
  obtain ⟨p1, p2, p3, p4, p5⟩ := hp
  have e8 : h2 36 8 = h 36 8 := hF _ _ rfl
  exact ⟨(hF _ _ (zYf_k hk (by omega) (by omega))).trans p1, (hF _ _ (zYf_k hk (by omega) (by omega))).trans p2, e8.trans p3, fun i w hi hw => (hF _ _ zYf_43).trans (p4 i w hi hw), fun v h0 h6 => (hF _ _ rfl).trans (p5 v h0 h6)⟩
theorem zEc.fr {h h2 : zM} {G : zG} (he : zEc h G) (e : ∀ r k, r < 36 ∨ r = 44 ∨ r = 45 ∨ r = 53 ∨ r = 54 → h2 r k = h r k) : zEc h2 G := by
  obtain ⟨a, b, c⟩ := he
  exact ⟨a.fr (fun w k hw => e _ _ (by omega)) (fun k => e _ _ (by omega)) (fun k => e _ _ (by omega)), (e _ _ (by omega)).trans b, fun x hx => (e _ _ (by omega)).trans (c x hx)⟩
theorem zQf_n {r : Nat} {k : Int} (h : r < 36 ∨ r = 44 ∨ r = 45 ∨ r = 53 ∨ r = 54) : zQf r k = false := by
  unfold zQf
  have h1 : (Nat.ble 36 r && Nat.ble r 43) = false := by
    cases e1 : Nat.ble 36 r
    · rfl
    · cases e2 : Nat.ble r 43
      · rfl
      · have := Nat.ble_eq.mp e1; have := Nat.ble_eq.mp e2; omega
  have h2 : (Nat.ble 55 r && Nat.ble r 59) = false := by
    cases e1 : Nat.ble 55 r
    · rfl
    · cases e2 : Nat.ble r 59
      · rfl
      · have := Nat.ble_eq.mp e1; have := Nat.ble_eq.mp e2; omega
  rw [h1, h2, zbeq_ne (show r ≠ 52 by omega)]
  rfl
theorem zEc.Q {h h2 : zM} {G : zG} (he : zEc h G) (hF : zF zQf h h2) : zEc h2 G := he.fr (fun _ _ hr => hF _ _ (zQf_n hr))
/-- a point is closed -/
theorem zHc.put {h : zM} {P : zPS} {k : Nat} (hh : zHc h P k) (hk : k < P.1) {s : zLs} {a : Int} (hp : zKp h k s a) (ha : 0 ≤ a) (e o t y : Int) : zHc (zx_st (zx_st (zx_st (zx_st h (36 + 3) (k : Int) e) (36 + 4) (k : Int) o) (36 + 5) (k : Int) t) (36 + 6) (k : Int) y) (zput P k s e o t y) (k + 1) := by
  obtain ⟨p1, p2, p3, p4, p5⟩ := hp
  obtain ⟨h1, h2, h3, h4⟩ := hh
  refine ⟨h1, h2, h3, fun j hj => ?_⟩
  by_cases ej : j = k
  · subst ej
    refine ⟨fun w w0 w6 => ?_, ?_, ?_, fun i w hi hw => ?_⟩
    · show _ = (if j = j then (if w = 1 then (s.2.1 : Int) else if w = 2 then e else if w = 3 then o else if w = 4 then t else y) else _)
      rw [if_pos rfl]
      rcases (show w = 1 ∨ w = 2 ∨ w = 3 ∨ w = 4 ∨ w = 5 by omega) with rfl | rfl | rfl | rfl | rfl <;> simp [zx_st]
      exact p2
    · show 0 ≤ h 37 (j : Int)
      omega
    · show h 37 (j : Int) + (if j = j then (s.2.1 : Int) else _) ≤ h 36 8
      rw [if_pos rfl]
      omega
    · have hi : (i : Int) < (if j = j then (s.2.1 : Int) else _) := hi
      rw [if_pos rfl] at hi
      show h 43 ((h 37 (j : Int) + (i : Int)) * 5 + (w : Int)) = (if j = j then s.2.2 else _) i w
      rw [if_pos rfl, p1]
      exact p4 i w (by omega) hw
  · obtain ⟨a1, a2, a3, a4⟩ := h4 j (by omega)
    refine ⟨fun w w0 w6 => ?_, a2, ?_, fun i w hi hw => ?_⟩
    · show _ = (if j = k then _ else P.2.2.2.2.1 j w)
      rw [if_neg ej, zst_ne (by omega), zst_ne (by omega), zst_ne (by omega), zst_ne (by omega)]
      exact a1 w w0 w6
    · show h 37 (j : Int) + (if j = k then _ else P.2.2.2.2.1 j 1) ≤ h 36 8
      rw [if_neg ej]
      exact a3
    · have hi : (i : Int) < (if j = k then _ else P.2.2.2.2.1 j 1) := hi
      rw [if_neg ej] at hi
      show h 43 ((h 37 (j : Int) + (i : Int)) * 5 + (w : Int)) = (if j = k then s.2.2 else P.2.2.2.2.2 j) i w
      rw [if_neg ej]
      exact a4 i w hi hw
