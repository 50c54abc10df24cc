/-! The class appends a step; a point is met -/
def zAf (b : Nat) (p s : Int) : Nat → Int → Bool := fun r j => (Nat.beq r b && decide (j = 8)) || (Nat.beq r (b + 2) && decide (j = p)) || (Nat.beq r (b + 7) && decide (s * 5 ≤ j) && decide (j < s * 5 + 5))
theorem zAf_7 {b : Nat} {p s i : Int} (hi : 0 ≤ i ∧ i < 5) : zAf b p s (b + 7) (s * 5 + i) = true := by
  unfold zAf
  have h1 : decide (s * 5 ≤ s * 5 + i) = true := decide_eq_true (by omega)
  have h2 : decide (s * 5 + i < s * 5 + 5) = true := decide_eq_true (by omega)
  rw [h1, h2]
  simp
theorem zAf_8 {b : Nat} {p s : Int} : zAf b p s b 8 = true := by
  unfold zAf
  simp
theorem zAf_2 {b : Nat} {p s : Int} : zAf b p s (b + 2) p = true := by
  unfold zAf
  simp
theorem zapp5 {h : zM} {r : Nat} {k : Int} {t : Nat → Int} : ∀ w : Nat, w < 5 → zx_st (zx_st (zx_st (zx_st (zx_st h r (k + 0) (t 0)) r (k + 1) (t 1)) r (k + 2) (t 2)) r (k + 3) (t 3)) r (k + 4) (t 4) r (k + (w : Int)) = t w := by
  intro w hw
  rcases (show w = 0 ∨ w = 1 ∨ w = 2 ∨ w = 3 ∨ w = 4 by omega) with rfl | rfl | rfl | rfl | rfl
  · rw [zst_ne (by omega), zst_ne (by omega), zst_ne (by omega), zst_ne (by omega)]; exact zst_eq _ _ _ _
  · rw [zst_ne (by omega), zst_ne (by omega), zst_ne (by omega)]; exact zst_eq _ _ _ _
  · rw [zst_ne (by omega), zst_ne (by omega)]; exact zst_eq _ _ _ _
  · rw [zst_ne (by omega)]; exact zst_eq _ _ _ _
  · exact zst_eq _ _ _ _
set_option maxHeartbeats 4000000 in
set_option maxRecDepth 100000 in
/-- Web.append -/
theorem s_194 {b : Nat} (hb : b = 4 ∨ b = 36) {h : zM} {p s : Int} {t : Nat → Int} {x0 x1 x2 x3 x4 : Int} (e0 : x0 = t 0) (e1 : x1 = t 1) (e2 : x2 = t 2) (e3 : x3 = t 3) (e4 : x4 = t 4) (hk : h b 7 ≤ zWn b) (hp : 0 ≤ p ∧ p < h b 7) (hs : h b 8 = s) (hs0 : 0 ≤ s ∧ s < zWs b) (hm : 0 ≤ h (b + 2) p ∧ h (b + 2) p ≤ 1000) {Q : zQ} (hq : ∀ h2, zF (zAf b p s) h h2 → h2 b 8 = s + 1 → h2 (b + 2) p = h (b + 2) p + 1 → (∀ w : Nat, w < 5 → h2 (b + 7) (s * 5 + (w : Int)) = t w) → Q (some (.inl 1)) h2) : zR 194 [.inr (.inr b), .inl p, .inl x0, .inl x1, .inl x2, .inl x3, .inl x4] h Q := by
  subst e0
  subst e1
  subst e2
  subst e3
  subst e4
  have l11 : zx_ln 11 = (120 : Int) := rfl
  have l43 : zx_ln 43 = (4800 : Int) := rfl
  have l6 : zx_ln 6 = (8 : Int) := rfl
  have l38 : zx_ln 38 = (40 : Int) := rfl
  have r4 : zWn 4 = 8 := rfl
  have r36 : zWn 36 = 40 := rfl
  have s4 : zWs 4 = 24 := rfl
  have s36 : zWs 36 = 960 := rfl
  subst hs
  obtain ⟨s, hs⟩ : ∃ s, s = h b 8 := ⟨_, rfl⟩
  obtain ⟨B, hB⟩ : ∃ B, B = b := ⟨_, rfl⟩
  rw [← hs] at hq hs0
  rcases hb with rfl | rfl
  all_goals
    refine zx_met zk_194 (Or.inr ⟨_, _, rfl, rfl⟩) (Nat.le_of_ble_eq_true rfl) (fun x => Nat.beq x 53 || Nat.beq x 59) 1000 (fun m j L S h2 => (j = 53 ∧ S = [] ∧ L = [some (.inr (.inr B)), some (.inl p), some (.inl (t 0)), some (.inl (t 1)), some (.inl (t 2)), some (.inl (t 3)), some (.inl (t 4)), some (.inl (s * 5))] ∧ m = 2 ∧ zF (zAf B p s) h h2 ∧ h2 B 7 = h B 7 ∧ (∀ w : Nat, w < 5 → h2 (B + 7) (s * 5 + (w : Int)) = t w) ∧ h2 (B + 2) p = h (B + 2) p ∧ h2 B 8 = s) ∨ (j = 59 ∧ S = [] ∧ L = [some (.inr (.inr B)), some (.inl p), some (.inl (t 0)), some (.inl (t 1)), some (.inl (t 2)), some (.inl (t 3)), some (.inl (t 4)), some (.inl (s * 5))] ∧ m = 1 ∧ zF (zAf B p s) h h2 ∧ h2 B 7 = h B 7 ∧ (∀ w : Nat, w < 5 → h2 (B + 7) (s * 5 + (w : Int)) = t w) ∧ h2 (B + 2) p = h (B + 2) p ∧ h2 B 8 = s + 1)) (fun hok hM => ?_) (fun hok hM => ?_)
    · refine And.intro (by omega) ?_
      refine s_196 (by unfold zWb; omega) (fun _ => ?_) (fun q => absurd hp q)
      refine And.intro (fun c => absurd c (by decide)) (fun _ => ?_)
      refine And.intro (by omega) ?_
      refine And.intro (fun c1 => ?_) (fun c1 => absurd (by omega) c1)
      refine And.intro (by omega) ?_
      refine And.intro (by first | (show 0 ≤ _ ∧ _ < (120 : Int); omega) | (show 0 ≤ _ ∧ _ < (4800 : Int); omega) | (show 0 ≤ _ ∧ _ < (8 : Int); omega) | (show 0 ≤ _ ∧ _ < (40 : Int); omega)) ?_
      refine And.intro (by omega) ?_
      refine And.intro (by first | (show 0 ≤ _ ∧ _ < (120 : Int); omega) | (show 0 ≤ _ ∧ _ < (4800 : Int); omega) | (show 0 ≤ _ ∧ _ < (8 : Int); omega) | (show 0 ≤ _ ∧ _ < (40 : Int); omega)) ?_
      refine And.intro (by omega) ?_
      refine And.intro (by first | (show 0 ≤ _ ∧ _ < (120 : Int); omega) | (show 0 ≤ _ ∧ _ < (4800 : Int); omega) | (show 0 ≤ _ ∧ _ < (8 : Int); omega) | (show 0 ≤ _ ∧ _ < (40 : Int); omega)) ?_
      refine And.intro (by omega) ?_
      refine And.intro (by first | (show 0 ≤ _ ∧ _ < (120 : Int); omega) | (show 0 ≤ _ ∧ _ < (4800 : Int); omega) | (show 0 ≤ _ ∧ _ < (8 : Int); omega) | (show 0 ≤ _ ∧ _ < (40 : Int); omega)) ?_
      refine And.intro (by omega) ?_
      refine And.intro (by first | (show 0 ≤ _ ∧ _ < (120 : Int); omega) | (show 0 ≤ _ ∧ _ < (4800 : Int); omega) | (show 0 ≤ _ ∧ _ < (8 : Int); omega) | (show 0 ≤ _ ∧ _ < (40 : Int); omega)) ?_
      subst hB
      rw [← hs]
      refine ⟨2, Or.inl ⟨rfl, rfl, rfl, rfl, ?_, ?_, zapp5, ?_, ?_⟩⟩
      · exact ((((zF.rf.st (zAf_7 (i := 0) (by omega))).st (zAf_7 (i := 1) (by omega))).st (zAf_7 (i := 2) (by omega))).st (zAf_7 (i := 3) (by omega))).st (zAf_7 (i := 4) (by omega))
      · simp [zx_st]
      · simp [zx_st]
      · simp [zx_st, hs]
    · rintro n0 i0 L S h2 hM2 (hI | hI)
      · subst hB
        obtain ⟨rfl, rfl, rfl, hm0, hF, e7, et, e2, e8⟩ := hI
        refine And.intro (by omega) ?_
        refine ⟨1, by omega, Or.inr ⟨rfl, rfl, rfl, rfl, hF.st zAf_8, ?_, ?_, ?_, ?_⟩⟩
        · rw [zst_ne (by decide)]; exact e7
        · intro w hw
          rw [zst_nr (by omega)]; exact et w hw
        · rw [zst_nr (by omega)]; exact e2
        · rw [zst_eq, e8]
      · subst hB
        obtain ⟨rfl, rfl, rfl, hm0, hF, e7, et, e2, e8⟩ := hI
        simp only [Nat.reduceAdd] at hm e2
        refine And.intro (by first | (show 0 ≤ _ ∧ _ < (120 : Int); omega) | (show 0 ≤ _ ∧ _ < (4800 : Int); omega) | (show 0 ≤ _ ∧ _ < (8 : Int); omega) | (show 0 ≤ _ ∧ _ < (40 : Int); omega)) ?_
        refine And.intro (by omega) ?_
        refine And.intro (by first | (show 0 ≤ _ ∧ _ < (120 : Int); omega) | (show 0 ≤ _ ∧ _ < (4800 : Int); omega) | (show 0 ≤ _ ∧ _ < (8 : Int); omega) | (show 0 ≤ _ ∧ _ < (40 : Int); omega)) ?_
        refine And.intro (by first | exact Or.inl rfl | exact Or.inr rfl | omega) ?_
        refine hq _ (hF.st zAf_2) ?_ ?_ ?_
        · rw [zst_nr (by omega)]; exact e8
        · rw [zst_eq]; exact congrArg (· + 1) e2
        · intro w hw
          rw [zst_nr (by omega)]; exact et w hw
theorem s_153e {h : zM} {G : zG} (he : zEc h G) (hw : zWf G) {b : Nat} (hb : b < G.1) {x : Int} (hx : x = G.2.2.2.2.2) {F : Int → Int} (hF0 : ∀ v, 0 ≤ v → v < 6 → F v = ztd G (h 58) b v) {Q : zQ} (hq : ∀ h2, zF (fun r _ => Nat.beq r 59) h h2 → (∀ v, 0 ≤ v → v < 6 → h2 59 v = F v) → Q none h2) : zR 153 [.inr (.inr 52), .inl (b : Int), .inl x] h Q := by
  subst hx
  exact s_153 he hw hb hF0 hq
/-- the class's points are P; k of them are gone through -/
def zHc (h : zM) (P : zPS) (k : Nat) : Prop := h 36 7 = (P.1 : Int) ∧ (∀ j : Nat, j < P.1 → h 55 (j : Int) = (P.2.1 j : Int) ∧ h 56 (j : Int) = P.2.2.2.1 j ∧ ∀ v, 0 ≤ v → v < 6 → h 57 ((j : Int) * 6 + v) = P.2.2.1 j v) ∧ 0 ≤ h 36 8 ∧ ∀ j : Nat, j < k → (∀ w : Nat, 0 < w → w < 6 → h (37 + w) (j : Int) = P.2.2.2.2.1 j w) ∧ 0 ≤ h 37 (j : Int) ∧ h 37 (j : Int) + P.2.2.2.2.1 j 1 ≤ h 36 8 ∧ ∀ i w : Nat, (i : Int) < P.2.2.2.2.1 j 1 → w < 5 → h 43 ((h 37 (j : Int) + (i : Int)) * 5 + (w : Int)) = P.2.2.2.2.2 j i w
def zYf (n : Int) : Nat → Int → Bool := fun r j => Nat.beq r 55 || Nat.beq r 56 || Nat.beq r 57 || Nat.beq r 59 || (Nat.beq r 52 && decide (j = 5)) || zOf 36 n r j
theorem zYf_O {n : Int} {h h2 : zM} (hF : zF (zOf 36 n) h h2) : zF (zYf n) h h2 := hF.mono (fun r k hf => by
  unfold zYf at hf
  simp only [Bool.or_eq_false_iff] at hf
  exact hf.2)
theorem zYf_59 {n : Int} {h h2 : zM} (hF : zF (fun r _ => Nat.beq r 59) h h2) : zF (zYf n) h h2 := hF.mono (fun r k hf => by
  unfold zYf at hf
  simp only [Bool.or_eq_false_iff] at hf
  exact hf.1.1.2)
theorem zOf_k {n j : Int} (h : j ≠ n) {r : Nat} (hr : 36 < r) : zOf 36 n r j = false := by
  unfold zOf
  have h1 : Nat.beq r 36 = false := zbeq_ne (by omega)
  have h2 : decide (j = n) = false := decide_eq_false h
  rw [h1, h2]
  simp
theorem zYf_k {n j : Int} (h : j ≠ n) {r : Nat} (h1 : 36 < r) (h2 : r < 44) : zYf n r j = false := by
  unfold zYf
  rw [zOf_k h h1, zbeq_ne (show r ≠ 55 by omega), zbeq_ne (show r ≠ 56 by omega), zbeq_ne (show r ≠ 57 by omega), zbeq_ne (show r ≠ 59 by omega), zbeq_ne (show r ≠ 52 by omega)]
  rfl
theorem zYf_43 {n j : Int} : zYf n 43 j = false := rfl
/-- what is gone through stays -/
theorem zHc.Y {h h2 : zM} {P : zPS} {k : Nat} (hh : zHc h P k) (hk : k ≤ P.1) (hF : zF (zYf (P.1 : Int)) h h2) {P2 : zPS} (hA : P2.2.2.2.2 = P.2.2.2.2) (h7 : h2 36 7 = (P2.1 : Int)) (hp : ∀ j : Nat, j < P2.1 → h2 55 (j : Int) = (P2.2.1 j : Int) ∧ h2 56 (j : Int) = P2.2.2.2.1 j ∧ ∀ v, 0 ≤ v → v < 6 → h2 57 ((j : Int) * 6 + v) = P2.2.2.1 j v) : zHc h2 P2 k := by
  have e8 : h2 36 8 = h 36 8 := hF _ _ rfl
  refine ⟨h7, hp, by rw [e8]; exact hh.2.2.1, fun j hj => ?_⟩
  obtain ⟨a, b, c, d⟩ := hh.2.2.2 j hj
  have e37 : h2 37 (j : Int) = h 37 (j : Int) := hF _ _ (zYf_k (by omega) (by omega) (by omega))
  rw [hA, e37, e8]
  refine ⟨fun w h0 h6 => ?_, b, c, fun i w hi hw => ?_⟩
  · rw [hF _ _ (zYf_k (by omega) (by omega) (by omega))]
    exact a w h0 h6
  · rw [hF _ _ zYf_43]
    exact d i w hi hw
set_option maxHeartbeats 4000000 in
set_option maxRecDepth 100000 in
/-- Points.meet -/
theorem s_152 {h : zM} {G : zG} (he : zEc h G) (hw : zWf G) {P : zPS} {k : Nat} (hh : zHc h P k) (ho : zPo G P k) {b : Nat} (hb : b < G.1) {F : Int → Int} (hF0 : ∀ v, 0 ≤ v → v < 6 → F v = ztd G (h 58) b v) {m : Int} {Q : zQ} (hq : ∀ h2 x, zF (zYf (P.1 : Int)) h h2 → zHc h2 (zme P b F m).1 k → ((zme P b F m).2.2 = false → x = ((zme P b F m).2.1 : Int) ∧ h2 52 5 = h 52 5) → ((zme P b F m).2.2 = true → h2 52 5 = 1) → Q (some (.inl x)) h2) : zR 152 [.inr (.inr 52), .inr (.inr 44), .inl (b : Int), .inl m] h Q := by
  have h40 := ho.1
  have hk := ho.2.1
  have e37 : zWn 36 = 40 := rfl
  refine zx_met zk_152 (Or.inr ⟨_, _, rfl, rfl⟩) (Nat.le_of_ble_eq_true rfl) (fun x => Nat.beq x 39) 1000 (fun m0 j L S h2 => (j = 39 ∧ S = [] ∧ ∃ (x4 : Int) (q5 : Option zV), L = [some (.inr (.inr 52)), some (.inr (.inr 44)), some (.inl (b : Int)), some (.inl m), some (.inl x4), q5] ∧ x4 = (P.1 : Int) ∧ m0 = 100 ∧ zF (zYf (P.1 : Int)) h h2 ∧ P.1 < 40 ∧ (∀ j, j < P.1 → zlk P b F j = false) ∧ h2 36 7 = (P.1 : Int) + 1 ∧ (∀ v, 0 ≤ v → v < 6 → h2 59 v = F v) ∧ h2 52 5 = h 52 5 ∧ (∀ j : Nat, j < P.1 → h2 55 (j : Int) = (P.2.1 j : Int) ∧ h2 56 (j : Int) = P.2.2.2.1 j ∧ ∀ v, 0 ≤ v → v < 6 → h2 57 ((j : Int) * 6 + v) = P.2.2.1 j v)) ∨
    (j = 51 ∧ S = [] ∧ ∃ (k7 : Nat), L = [some (.inr (.inr 52)), some (.inr (.inr 44)), some (.inl (b : Int)), some (.inl m), some (.inl (P.1 : Int)), some (.inl (k7 : Int))] ∧ k7 ≤ 6 ∧ m0 = 6 - k7 ∧ zF (zYf (P.1 : Int)) h h2 ∧ P.1 < 40 ∧ (∀ j, j < P.1 → zlk P b F j = false) ∧ h2 36 7 = (P.1 : Int) + 1 ∧ (∀ v, 0 ≤ v → v < 6 → h2 59 v = F v) ∧ h2 52 5 = h 52 5 ∧ (∀ j : Nat, j < P.1 → h2 55 (j : Int) = (P.2.1 j : Int) ∧ h2 56 (j : Int) = P.2.2.2.1 j ∧ ∀ v, 0 ≤ v → v < 6 → h2 57 ((j : Int) * 6 + v) = P.2.2.1 j v) ∧ h2 55 (P.1 : Int) = (b : Int) ∧ h2 56 (P.1 : Int) = m ∧ ∀ v, 0 ≤ v → v < (k7 : Int) → h2 57 ((P.1 : Int) * 6 + v) = F v)) (fun hok hM => ?_) (fun hok hM => ?_)
  · refine s_153e he hw hb he.1.2.2.2.2.2 hF0 (fun h1 hF1 hs => ?_)
    have hn1 : h1 36 7 = (P.1 : Int) := (hF1 _ _ rfl).trans hh.1
    refine s_154 hn1 h40 (fun j hj => ⟨(hF1 _ _ rfl).trans (hh.2.1 j hj).1, fun v h0 h6 => (hF1 _ _ rfl).trans ((hh.2.1 j hj).2.2 v h0 h6)⟩) hs (fun k7 hk7 hno hit => ?_) (fun hno => ?_)
    · refine And.intro (fun c1 => absurd c1 (by omega)) (fun c1 => ?_)
      refine And.intro (by first | (show 0 ≤ _ ∧ _ < (40 : Int); omega) | (show 0 ≤ _ ∧ _ < (240 : Int); omega) | (show 0 ≤ _ ∧ _ < (6 : Int); omega)) ?_
      constructor
      · intro c2
        refine And.intro (by first | (show 0 ≤ _ ∧ _ < (40 : Int); omega) | (show 0 ≤ _ ∧ _ < (240 : Int); omega) | (show 0 ≤ _ ∧ _ < (6 : Int); omega)) ?_
        first
        | (have k6 : k7 = 6 := by omega
           subst k6
           have hz : zme P b F m = ((P.1 + 1, (fun j => if j = P.1 then b else P.2.1 j), (fun j => if j = P.1 then F else P.2.2.1 j), (fun j => if j = P.1 then m else P.2.2.2.1 j), P.2.2.2.2.1, P.2.2.2.2.2), P.1, false) := by
             unfold zme
             rw [zfd_no _ hno, if_neg (by omega), if_neg (by omega)]
           refine hq _ _ hF ?_ (fun _ => ?_) (fun q => ?_)
           · rw [hz]
             refine hh.Y hk hF rfl e7 (fun j hj => ?_)
             have hj : j < P.1 + 1 := hj
             show h2 55 (j : Int) = ((if j = P.1 then b else P.2.1 j : Nat) : Int) ∧ h2 56 (j : Int) = (if j = P.1 then m else P.2.2.2.1 j) ∧ ∀ v, 0 ≤ v → v < 6 → h2 57 ((j : Int) * 6 + v) = (if j = P.1 then F else P.2.2.1 j) v
             by_cases e : j = P.1
             · simp only [if_pos e]
               rw [e]
               exact ⟨e55, e56, e57⟩
             · simp only [if_neg e]
               exact hr j (by omega)
           · rw [hz]
             exact ⟨rfl, e52⟩
           · rw [hz] at q
             cases q)
        | (have hf := zfd_hit hno hit P.1 hk7
           have hz : zme P b F m = ((P.1, P.2.1, P.2.2.1, (fun j => if j = k7 ∧ P.2.2.2.1 j = -4 then m else P.2.2.2.1 j), P.2.2.2.2.1, P.2.2.2.2.2), k7, false) := by
             unfold zme
             rw [hf, if_pos hk7]
           have e56k := (hF1 56 (k7 : Int) rfl).trans (hh.2.1 k7 hk7).2.1
           first
           | (refine hq _ _ ((zYf_59 hF1).st rfl) ?_ (fun _ => ?_) (fun q => ?_)
              · rw [hz]
                refine hh.Y hk ((zYf_59 hF1).st rfl) rfl hn1 (fun j hj => ?_)
                obtain ⟨a, b, c⟩ := hh.2.1 j hj
                refine ⟨(hF1 _ _ rfl).trans a, ?_, fun v h0 h6 => (hF1 _ _ rfl).trans (c v h0 h6)⟩
                show _ = if j = k7 ∧ P.2.2.2.1 j = -4 then m else P.2.2.2.1 j
                by_cases e : j = k7
                · subst e
                  rw [if_pos ⟨rfl, by omega⟩]
                  exact zst_eq _ _ _ _
                · rw [if_neg (fun q => e q.1), zst_ne (by omega)]
                  exact (hF1 _ _ rfl).trans b
              · rw [hz]
                exact ⟨rfl, hF1 _ _ rfl⟩
              · rw [hz] at q
                cases q)
           | (refine hq _ _ (zYf_59 hF1) ?_ (fun _ => ?_) (fun q => ?_)
              · rw [hz]
                refine hh.Y hk (zYf_59 hF1) rfl hn1 (fun j hj => ?_)
                obtain ⟨a, b, c⟩ := hh.2.1 j hj
                refine ⟨(hF1 _ _ rfl).trans a, ?_, fun v h0 h6 => (hF1 _ _ rfl).trans (c v h0 h6)⟩
                show _ = if j = k7 ∧ P.2.2.2.1 j = -4 then m else P.2.2.2.1 j
                rw [if_neg (fun q => by have q1 := q.1; subst q1; have := q.2; omega)]
                exact (hF1 _ _ rfl).trans b
              · rw [hz]
                exact ⟨rfl, hF1 _ _ rfl⟩
              · rw [hz] at q
                cases q))
        | (have hz : zme P b F m = (P, 0, true) := by
             unfold zme
             rw [zfd_no _ hno, if_neg (by omega), if_pos (by omega)]
           refine hq _ _ ((zYf_59 hF1).st rfl) ?_ (fun q => ?_) (fun _ => ?_)
           · rw [hz]
             refine hh.Y hk ((zYf_59 hF1).st rfl) rfl hn1 (fun j hj => ?_)
             obtain ⟨a, b, c⟩ := hh.2.1 j hj
             exact ⟨(hF1 _ _ rfl).trans a, (hF1 _ _ rfl).trans b, fun v h0 h6 => (hF1 _ _ rfl).trans (c v h0 h6)⟩
           · rw [hz] at q
             cases q
           · exact zst_eq _ _ _ _)
      · intro c2
        first
        | (have k6 : k7 = 6 := by omega
           subst k6
           have hz : zme P b F m = ((P.1 + 1, (fun j => if j = P.1 then b else P.2.1 j), (fun j => if j = P.1 then F else P.2.2.1 j), (fun j => if j = P.1 then m else P.2.2.2.1 j), P.2.2.2.2.1, P.2.2.2.2.2), P.1, false) := by
             unfold zme
             rw [zfd_no _ hno, if_neg (by omega), if_neg (by omega)]
           refine hq _ _ hF ?_ (fun _ => ?_) (fun q => ?_)
           · rw [hz]
             refine hh.Y hk hF rfl e7 (fun j hj => ?_)
             have hj : j < P.1 + 1 := hj
             show h2 55 (j : Int) = ((if j = P.1 then b else P.2.1 j : Nat) : Int) ∧ h2 56 (j : Int) = (if j = P.1 then m else P.2.2.2.1 j) ∧ ∀ v, 0 ≤ v → v < 6 → h2 57 ((j : Int) * 6 + v) = (if j = P.1 then F else P.2.2.1 j) v
             by_cases e : j = P.1
             · simp only [if_pos e]
               rw [e]
               exact ⟨e55, e56, e57⟩
             · simp only [if_neg e]
               exact hr j (by omega)
           · rw [hz]
             exact ⟨rfl, e52⟩
           · rw [hz] at q
             cases q)
        | (have hf := zfd_hit hno hit P.1 hk7
           have hz : zme P b F m = ((P.1, P.2.1, P.2.2.1, (fun j => if j = k7 ∧ P.2.2.2.1 j = -4 then m else P.2.2.2.1 j), P.2.2.2.2.1, P.2.2.2.2.2), k7, false) := by
             unfold zme
             rw [hf, if_pos hk7]
           have e56k := (hF1 56 (k7 : Int) rfl).trans (hh.2.1 k7 hk7).2.1
           first
           | (refine hq _ _ ((zYf_59 hF1).st rfl) ?_ (fun _ => ?_) (fun q => ?_)
              · rw [hz]
                refine hh.Y hk ((zYf_59 hF1).st rfl) rfl hn1 (fun j hj => ?_)
                obtain ⟨a, b, c⟩ := hh.2.1 j hj
                refine ⟨(hF1 _ _ rfl).trans a, ?_, fun v h0 h6 => (hF1 _ _ rfl).trans (c v h0 h6)⟩
                show _ = if j = k7 ∧ P.2.2.2.1 j = -4 then m else P.2.2.2.1 j
                by_cases e : j = k7
                · subst e
                  rw [if_pos ⟨rfl, by omega⟩]
                  exact zst_eq _ _ _ _
                · rw [if_neg (fun q => e q.1), zst_ne (by omega)]
                  exact (hF1 _ _ rfl).trans b
              · rw [hz]
                exact ⟨rfl, hF1 _ _ rfl⟩
              · rw [hz] at q
                cases q)
           | (refine hq _ _ (zYf_59 hF1) ?_ (fun _ => ?_) (fun q => ?_)
              · rw [hz]
                refine hh.Y hk (zYf_59 hF1) rfl hn1 (fun j hj => ?_)
                obtain ⟨a, b, c⟩ := hh.2.1 j hj
                refine ⟨(hF1 _ _ rfl).trans a, ?_, fun v h0 h6 => (hF1 _ _ rfl).trans (c v h0 h6)⟩
                show _ = if j = k7 ∧ P.2.2.2.1 j = -4 then m else P.2.2.2.1 j
                rw [if_neg (fun q => by have q1 := q.1; subst q1; have := q.2; omega)]
                exact (hF1 _ _ rfl).trans b
              · rw [hz]
                exact ⟨rfl, hF1 _ _ rfl⟩
              · rw [hz] at q
                cases q))
        | (have hz : zme P b F m = (P, 0, true) := by
             unfold zme
             rw [zfd_no _ hno, if_neg (by omega), if_pos (by omega)]
           refine hq _ _ ((zYf_59 hF1).st rfl) ?_ (fun q => ?_) (fun _ => ?_)
           · rw [hz]
             refine hh.Y hk ((zYf_59 hF1).st rfl) rfl hn1 (fun j hj => ?_)
             obtain ⟨a, b, c⟩ := hh.2.1 j hj
             exact ⟨(hF1 _ _ rfl).trans a, (hF1 _ _ rfl).trans b, fun v h0 h6 => (hF1 _ _ rfl).trans (c v h0 h6)⟩
           · rw [hz] at q
             cases q
           · exact zst_eq _ _ _ _)
    · refine And.intro (fun _ => ?_) (fun c => absurd (by decide) c)
      refine s_192 (by unfold zWb; omega) hn1 (by omega) (fun hlt h2 hG e7 _ _ _ _ _ _ => ?_) (fun hlt => ?_)
      · refine And.intro (fun c => absurd c (by decide)) (fun _ => ?_)
        refine And.intro (by omega) ?_
        refine ⟨100, Or.inl ⟨rfl, rfl, _, _, rfl, by omega, rfl, (zYf_59 hF1).tr (zYf_O hG), by omega, hno, e7, fun v h0 h6 => (hG _ _ rfl).trans (hs v h0 h6), (hG _ _ rfl).trans (hF1 _ _ rfl), fun j hj => ?_⟩⟩
        obtain ⟨a, b, c⟩ := hh.2.1 j hj
        exact ⟨((hG _ _ rfl).trans (hF1 _ _ rfl)).trans a, ((hG _ _ rfl).trans (hF1 _ _ rfl)).trans b, fun v h0 h6 => ((hG _ _ rfl).trans (hF1 _ _ rfl)).trans (c v h0 h6)⟩
      · refine And.intro (fun _ => ?_) (fun c => absurd (by decide) c)
        refine And.intro (by first | exact Or.inl rfl | exact Or.inr rfl | omega) ?_
        first
        | (have k6 : k7 = 6 := by omega
           subst k6
           have hz : zme P b F m = ((P.1 + 1, (fun j => if j = P.1 then b else P.2.1 j), (fun j => if j = P.1 then F else P.2.2.1 j), (fun j => if j = P.1 then m else P.2.2.2.1 j), P.2.2.2.2.1, P.2.2.2.2.2), P.1, false) := by
             unfold zme
             rw [zfd_no _ hno, if_neg (by omega), if_neg (by omega)]
           refine hq _ _ hF ?_ (fun _ => ?_) (fun q => ?_)
           · rw [hz]
             refine hh.Y hk hF rfl e7 (fun j hj => ?_)
             have hj : j < P.1 + 1 := hj
             show h2 55 (j : Int) = ((if j = P.1 then b else P.2.1 j : Nat) : Int) ∧ h2 56 (j : Int) = (if j = P.1 then m else P.2.2.2.1 j) ∧ ∀ v, 0 ≤ v → v < 6 → h2 57 ((j : Int) * 6 + v) = (if j = P.1 then F else P.2.2.1 j) v
             by_cases e : j = P.1
             · simp only [if_pos e]
               rw [e]
               exact ⟨e55, e56, e57⟩
             · simp only [if_neg e]
               exact hr j (by omega)
           · rw [hz]
             exact ⟨rfl, e52⟩
           · rw [hz] at q
             cases q)
        | (have hf := zfd_hit hno hit P.1 hk7
           have hz : zme P b F m = ((P.1, P.2.1, P.2.2.1, (fun j => if j = k7 ∧ P.2.2.2.1 j = -4 then m else P.2.2.2.1 j), P.2.2.2.2.1, P.2.2.2.2.2), k7, false) := by
             unfold zme
             rw [hf, if_pos hk7]
           have e56k := (hF1 56 (k7 : Int) rfl).trans (hh.2.1 k7 hk7).2.1
           first
           | (refine hq _ _ ((zYf_59 hF1).st rfl) ?_ (fun _ => ?_) (fun q => ?_)
              · rw [hz]
                refine hh.Y hk ((zYf_59 hF1).st rfl) rfl hn1 (fun j hj => ?_)
                obtain ⟨a, b, c⟩ := hh.2.1 j hj
                refine ⟨(hF1 _ _ rfl).trans a, ?_, fun v h0 h6 => (hF1 _ _ rfl).trans (c v h0 h6)⟩
                show _ = if j = k7 ∧ P.2.2.2.1 j = -4 then m else P.2.2.2.1 j
                by_cases e : j = k7
                · subst e
                  rw [if_pos ⟨rfl, by omega⟩]
                  exact zst_eq _ _ _ _
                · rw [if_neg (fun q => e q.1), zst_ne (by omega)]
                  exact (hF1 _ _ rfl).trans b
              · rw [hz]
                exact ⟨rfl, hF1 _ _ rfl⟩
              · rw [hz] at q
                cases q)
           | (refine hq _ _ (zYf_59 hF1) ?_ (fun _ => ?_) (fun q => ?_)
              · rw [hz]
                refine hh.Y hk (zYf_59 hF1) rfl hn1 (fun j hj => ?_)
                obtain ⟨a, b, c⟩ := hh.2.1 j hj
                refine ⟨(hF1 _ _ rfl).trans a, ?_, fun v h0 h6 => (hF1 _ _ rfl).trans (c v h0 h6)⟩
                show _ = if j = k7 ∧ P.2.2.2.1 j = -4 then m else P.2.2.2.1 j
                rw [if_neg (fun q => by have q1 := q.1; subst q1; have := q.2; omega)]
                exact (hF1 _ _ rfl).trans b
              · rw [hz]
                exact ⟨rfl, hF1 _ _ rfl⟩
              · rw [hz] at q
                cases q))
        | (have hz : zme P b F m = (P, 0, true) := by
             unfold zme
             rw [zfd_no _ hno, if_neg (by omega), if_pos (by omega)]
           refine hq _ _ ((zYf_59 hF1).st rfl) ?_ (fun q => ?_) (fun _ => ?_)
           · rw [hz]
             refine hh.Y hk ((zYf_59 hF1).st rfl) rfl hn1 (fun j hj => ?_)
             obtain ⟨a, b, c⟩ := hh.2.1 j hj
             exact ⟨(hF1 _ _ rfl).trans a, (hF1 _ _ rfl).trans b, fun v h0 h6 => (hF1 _ _ rfl).trans (c v h0 h6)⟩
           · rw [hz] at q
             cases q
           · exact zst_eq _ _ _ _)
  · rintro n0 i0 L S h2 hM2 (hI | hI)
    · obtain ⟨rfl, rfl, x4, q5, rfl, rfl, hm0, hF, hlt, hno, e7, hs, e52, hr⟩ := hI
      refine And.intro (by first | (show 0 ≤ _ ∧ _ < (40 : Int); omega) | (show 0 ≤ _ ∧ _ < (240 : Int); omega) | (show 0 ≤ _ ∧ _ < (6 : Int); omega)) ?_
      refine And.intro (by first | (show 0 ≤ _ ∧ _ < (40 : Int); omega) | (show 0 ≤ _ ∧ _ < (240 : Int); omega) | (show 0 ≤ _ ∧ _ < (6 : Int); omega)) ?_
      first
      | (refine ⟨6 - 0, by omega, Or.inr ⟨rfl, rfl, 0, rfl, by omega, rfl, (hF.st rfl).st rfl, hlt, hno, e7, hs, e52, fun j hj => ?_, ?_, ?_, fun v h0 h1 => by omega⟩⟩
         · obtain ⟨a, b, c⟩ := hr j hj
           refine ⟨?_, ?_, ?_⟩
           · rw [zst_nr (by omega), zst_ne (by omega)]; exact a
           · rw [zst_ne (by omega), zst_nr (by omega)]; exact b
           · exact c
         · rw [zst_nr (by omega)]; exact zst_eq _ _ _ _
         · exact zst_eq _ _ _ _)
      | (refine ⟨6 - (k7 + 1), by omega, Or.inr ⟨rfl, rfl, k7 + 1, rfl, by omega, rfl, hF.st rfl, hlt, hno, e7, hs, e52, fun j hj => ?_, e55, e56, fun v h0 h1 => ?_⟩⟩
         · obtain ⟨a, b, c⟩ := hr j hj
           refine ⟨a, b, fun v h0 h6 => ?_⟩
           rw [zst_ne (by omega)]; exact c v h0 h6
         · by_cases e : v = (k7 : Int)
           · rw [e, zst_eq]; exact hs _ (by omega) (by omega)
           · rw [zst_ne (by omega)]; exact e57 v h0 (by omega))
    · obtain ⟨rfl, rfl, k7, rfl, hk7, hm0, hF, hlt, hno, e7, hs, e52, hr, e55, e56, e57⟩ := hI
      constructor
      · intro c3
        refine And.intro (by omega) ?_
        refine And.intro (by omega) ?_
        refine And.intro (by first | (show 0 ≤ _ ∧ _ < (40 : Int); omega) | (show 0 ≤ _ ∧ _ < (240 : Int); omega) | (show 0 ≤ _ ∧ _ < (6 : Int); omega)) ?_
        refine And.intro (by first | (show 0 ≤ _ ∧ _ < (40 : Int); omega) | (show 0 ≤ _ ∧ _ < (240 : Int); omega) | (show 0 ≤ _ ∧ _ < (6 : Int); omega)) ?_
        refine And.intro (by omega) ?_
        first
        | (refine ⟨6 - 0, by omega, Or.inr ⟨rfl, rfl, 0, rfl, by omega, rfl, (hF.st rfl).st rfl, hlt, hno, e7, hs, e52, fun j hj => ?_, ?_, ?_, fun v h0 h1 => by omega⟩⟩
           · obtain ⟨a, b, c⟩ := hr j hj
             refine ⟨?_, ?_, ?_⟩
             · rw [zst_nr (by omega), zst_ne (by omega)]; exact a
             · rw [zst_ne (by omega), zst_nr (by omega)]; exact b
             · exact c
           · rw [zst_nr (by omega)]; exact zst_eq _ _ _ _
           · exact zst_eq _ _ _ _)
        | (refine ⟨6 - (k7 + 1), by omega, Or.inr ⟨rfl, rfl, k7 + 1, rfl, by omega, rfl, hF.st rfl, hlt, hno, e7, hs, e52, fun j hj => ?_, e55, e56, fun v h0 h1 => ?_⟩⟩
           · obtain ⟨a, b, c⟩ := hr j hj
             refine ⟨a, b, fun v h0 h6 => ?_⟩
             rw [zst_ne (by omega)]; exact c v h0 h6
           · by_cases e : v = (k7 : Int)
             · rw [e, zst_eq]; exact hs _ (by omega) (by omega)
             · rw [zst_ne (by omega)]; exact e57 v h0 (by omega))
      · intro c3
        first
        | (have k6 : k7 = 6 := by omega
           subst k6
           have hz : zme P b F m = ((P.1 + 1, (fun j => if j = P.1 then b else P.2.1 j), (fun j => if j = P.1 then F else P.2.2.1 j), (fun j => if j = P.1 then m else P.2.2.2.1 j), P.2.2.2.2.1, P.2.2.2.2.2), P.1, false) := by
             unfold zme
             rw [zfd_no _ hno, if_neg (by omega), if_neg (by omega)]
           refine hq _ _ hF ?_ (fun _ => ?_) (fun q => ?_)
           · rw [hz]
             refine hh.Y hk hF rfl e7 (fun j hj => ?_)
             have hj : j < P.1 + 1 := hj
             show h2 55 (j : Int) = ((if j = P.1 then b else P.2.1 j : Nat) : Int) ∧ h2 56 (j : Int) = (if j = P.1 then m else P.2.2.2.1 j) ∧ ∀ v, 0 ≤ v → v < 6 → h2 57 ((j : Int) * 6 + v) = (if j = P.1 then F else P.2.2.1 j) v
             by_cases e : j = P.1
             · simp only [if_pos e]
               rw [e]
               exact ⟨e55, e56, e57⟩
             · simp only [if_neg e]
               exact hr j (by omega)
           · rw [hz]
             exact ⟨rfl, e52⟩
           · rw [hz] at q
             cases q)
        | (have hf := zfd_hit hno hit P.1 hk7
           have hz : zme P b F m = ((P.1, P.2.1, P.2.2.1, (fun j => if j = k7 ∧ P.2.2.2.1 j = -4 then m else P.2.2.2.1 j), P.2.2.2.2.1, P.2.2.2.2.2), k7, false) := by
             unfold zme
             rw [hf, if_pos hk7]
           have e56k := (hF1 56 (k7 : Int) rfl).trans (hh.2.1 k7 hk7).2.1
           first
           | (refine hq _ _ ((zYf_59 hF1).st rfl) ?_ (fun _ => ?_) (fun q => ?_)
              · rw [hz]
                refine hh.Y hk ((zYf_59 hF1).st rfl) rfl hn1 (fun j hj => ?_)
                obtain ⟨a, b, c⟩ := hh.2.1 j hj
                refine ⟨(hF1 _ _ rfl).trans a, ?_, fun v h0 h6 => (hF1 _ _ rfl).trans (c v h0 h6)⟩
                show _ = if j = k7 ∧ P.2.2.2.1 j = -4 then m else P.2.2.2.1 j
                by_cases e : j = k7
                · subst e
                  rw [if_pos ⟨rfl, by omega⟩]
                  exact zst_eq _ _ _ _
                · rw [if_neg (fun q => e q.1), zst_ne (by omega)]
                  exact (hF1 _ _ rfl).trans b
              · rw [hz]
                exact ⟨rfl, hF1 _ _ rfl⟩
              · rw [hz] at q
                cases q)
           | (refine hq _ _ (zYf_59 hF1) ?_ (fun _ => ?_) (fun q => ?_)
              · rw [hz]
                refine hh.Y hk (zYf_59 hF1) rfl hn1 (fun j hj => ?_)
                obtain ⟨a, b, c⟩ := hh.2.1 j hj
                refine ⟨(hF1 _ _ rfl).trans a, ?_, fun v h0 h6 => (hF1 _ _ rfl).trans (c v h0 h6)⟩
                show _ = if j = k7 ∧ P.2.2.2.1 j = -4 then m else P.2.2.2.1 j
                rw [if_neg (fun q => by have q1 := q.1; subst q1; have := q.2; omega)]
                exact (hF1 _ _ rfl).trans b
              · rw [hz]
                exact ⟨rfl, hF1 _ _ rfl⟩
              · rw [hz] at q
                cases q))
        | (have hz : zme P b F m = (P, 0, true) := by
             unfold zme
             rw [zfd_no _ hno, if_neg (by omega), if_pos (by omega)]
           refine hq _ _ ((zYf_59 hF1).st rfl) ?_ (fun q => ?_) (fun _ => ?_)
           · rw [hz]
             refine hh.Y hk ((zYf_59 hF1).st rfl) rfl hn1 (fun j hj => ?_)
             obtain ⟨a, b, c⟩ := hh.2.1 j hj
             exact ⟨(hF1 _ _ rfl).trans a, (hF1 _ _ rfl).trans b, fun v h0 h6 => (hF1 _ _ rfl).trans (c v h0 h6)⟩
           · rw [hz] at q
             cases q
           · exact zst_eq _ _ _ _)
