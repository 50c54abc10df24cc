/-! PROGRAMS; the class's division -/
/-- a program: blocks, their numbers (0 first, 1 many, 2 end, 3 one, 4 two, 5 by), steps, their parts, GIVEN (-1: none), WISE -/
abbrev zG : Type := Nat × (Nat → Nat → Int) × Nat × (Nat → Nat → Int) × (Int → Int) × Int
def zGW (G : zG) : zW := (G.1, G.2.1, fun p i w => G.2.2.2.1 ((G.2.1 p 0).toNat + i) w)
def zWf (G : zG) : Prop := G.1 ≤ 8 ∧ G.2.2.1 ≤ 24 ∧ (∀ p, p < G.1 → 0 ≤ G.2.1 p 0 ∧ 0 ≤ G.2.1 p 1 ∧ G.2.1 p 0 + G.2.1 p 1 ≤ (G.2.2.1 : Int) ∧ zWE G.1 (G.2.1 p)) ∧ (∀ i, i < G.2.2.1 → zWS (G.2.2.2.1 i)) ∧ (∀ v, 0 ≤ v → v < 6 → -1 ≤ G.2.2.2.2.1 v ∧ G.2.2.2.2.1 v ≤ 99) ∧ (G.2.2.2.2.2 = 0 ∨ G.2.2.2.2.2 = 1)
/-- the class's program at g, its web at b -/
def zPc (h : zM) (b g : Nat) (G : zG) : Prop := h b 7 = (G.1 : Int) ∧ h b 8 = (G.2.2.1 : Int) ∧ (∀ p w : Nat, p < G.1 → w < 6 → h (b + 1 + w) (p : Int) = G.2.1 p w) ∧ (∀ i w : Nat, i < G.2.2.1 → w < 5 → h (b + 7) ((i : Int) * 5 + (w : Int)) = G.2.2.2.1 i w) ∧ (∀ v, 0 ≤ v → v < 6 → h (g + 1) v = if G.2.2.2.2.1 v < 0 then -4 else G.2.2.2.2.1 v) ∧ h g 2 = G.2.2.2.2.2
/-- the reference's program from o on -/
def zPm (h : zM) (o : Int) (G : zG) : Prop := h 82 (o + 175) = (G.1 : Int) ∧ h 82 (o + 176) = (G.2.2.1 : Int) ∧ (∀ p w : Nat, p < G.1 → w < 6 → h 82 (o + (120 + 8 * (w : Int) + (p : Int))) = G.2.1 p w) ∧ (∀ i w : Nat, i < G.2.2.1 → w < 5 → h 82 (o + (24 * (w : Int) + (i : Int))) = G.2.2.2.1 i w) ∧ (∀ v, 0 ≤ v → v < 6 → h 82 (o + (168 + v)) = G.2.2.2.2.1 v + 1) ∧ h 82 (o + 174) = 1 - G.2.2.2.2.2
theorem zWf.w {G : zG} (hw : zWf G) : zWw (zGW G) := by
  obtain ⟨a, b, c, d, e, f⟩ := hw
  refine ⟨by show G.1 ≤ 40; omega, fun p hp => ?_⟩
  obtain ⟨c1, c2, c3, c4⟩ := c p hp
  refine ⟨by show 0 ≤ G.2.1 p 1 ∧ G.2.1 p 1 ≤ 24; omega, c4, fun i hi => ?_⟩
  have hi : (i : Int) < G.2.1 p 1 := hi
  exact d _ (by omega)
theorem zPc.k {h : zM} {b g : Nat} {G : zG} (hp : zPc h b g G) (hw : zWf G) : zWk h b := by
  unfold zWk zWn zWs
  have a := hp.1
  have c := hp.2.1
  have d := hw.1
  have e := hw.2.1
  split <;> omega
theorem zPc.sp {h : zM} {b g : Nat} {G : zG} (hp : zPc h b g G) (hw : zWf G) {i : Nat} (hi : i < G.2.2.1) {x : Int} (hx : x = (i : Int)) : zSp h b x (G.2.2.2.1 i) := by
  subst hx
  refine ⟨?_, hp.k hw, fun w h5 => hp.2.2.2.1 i w hi h5⟩
  have := hp.2.1
  omega
theorem zPc.v {h : zM} {b g : Nat} {G : zG} (hp : zPc h b g G) (hw : zWf G) : zVw h b (zGW G) := by
  refine ⟨hp.k hw, hp.1, fun p hp2 => ?_⟩
  have hp2 : p < G.1 := hp2
  obtain ⟨c1, c2, c3, c4⟩ := hw.2.2.1 p hp2
  have e0 : h (b + 1) (p : Int) = G.2.1 p 0 := hp.2.2.1 p 0 hp2 (by omega)
  refine ⟨fun w h0 h6 => hp.2.2.1 p w hp2 h6, by rw [e0]; exact c1, ?_, fun i hi => ?_⟩
  · rw [e0, hp.2.1]
    exact c3
  · have hi : (i : Int) < G.2.1 p 1 := hi
    exact hp.sp hw (i := (G.2.1 p 0).toNat + i) (by omega) (by rw [e0]; omega)
theorem zPm.v {h : zM} {G : zG} (hp : zPm h 0 G) (hw : zWf G) : zVs h (zGW G) := by
  obtain ⟨a, b, c, d, e, f⟩ := hp
  refine ⟨by rw [Int.zero_add] at a; exact a, hw.1, fun p hp2 => ?_⟩
  have hp2 : p < G.1 := hp2
  obtain ⟨c1, c2, c3, c4⟩ := hw.2.2.1 p hp2
  have e0 : h 82 (120 + (p : Int)) = G.2.1 p 0 := by
    have := c p 0 hp2 (by omega)
    rw [show (0 : Int) + (120 + 8 * ((0 : Nat) : Int) + (p : Int)) = 120 + (p : Int) by omega] at this
    exact this
  have hn := hw.2.1
  refine ⟨fun w h0 h6 => ?_, by rw [e0]; exact c1, by rw [e0]; show G.2.1 p 0 + G.2.1 p 1 ≤ 24; omega, fun i w hi h5 => ?_⟩
  · have := c p w hp2 h6
    rw [Int.zero_add] at this
    exact this
  · have hi : (i : Int) < G.2.1 p 1 := hi
    have := d ((G.2.1 p 0).toNat + i) w (by omega) h5
    rw [Int.zero_add, show (((G.2.1 p 0).toNat + i : Nat) : Int) = G.2.1 p 0 + (i : Int) by omega] at this
    rw [e0]
    exact this
theorem zPc.fr {h h2 : zM} {b g : Nat} {G : zG} (hp : zPc h b g G) (e : ∀ (w : Nat) k, w < 8 → h2 (b + w) k = h (b + w) k) (eg : ∀ k, h2 g k = h g k) (e1 : ∀ k, h2 (g + 1) k = h (g + 1) k) : zPc h2 b g G := by
  obtain ⟨a, c, d, f, i, j⟩ := hp
  have e0 : ∀ k, h2 b k = h b k := fun k => e 0 k (by omega)
  refine ⟨by rw [e0]; exact a, by rw [e0]; exact c, fun p w hp hw => ?_, fun i w hi hw => ?_, fun v h0 h1 => by rw [e1]; exact i v h0 h1, by rw [eg]; exact j⟩
  · rw [show b + 1 + w = b + (1 + w) by omega, e (1 + w) _ (by omega), ← show b + 1 + w = b + (1 + w) by omega]
    exact d p w hp hw
  · rw [e 7 _ (by omega)]
    exact f i w hi hw
theorem zPm.fr {h h2 : zM} {o : Int} {G : zG} (hp : zPm h o G) (e : ∀ k, h2 82 k = h 82 k) : zPm h2 o G := by
  obtain ⟨a, c, d, f, i, j⟩ := hp
  exact ⟨by rw [e]; exact a, by rw [e]; exact c, fun p w hp hw => by rw [e]; exact d p w hp hw, fun p w hp hw => by rw [e]; exact f p w hp hw, fun v h0 h1 => by rw [e]; exact i v h0 h1, by rw [e]; exact j⟩
theorem zgb_e {f g : Int → Int} (hf : ∀ v, 0 ≤ v → v < 6 → f v = if g v < 0 then -4 else g v) : ∀ k : Nat, k ≤ 6 → zit (fun v s => if f (v : Int) < 0 then s else zx_or s (zx_shl 1 v)) k (0 : Int) = ((zit (fun v u => if g (v : Int) < 0 then u else u ||| 2 ^ v) k 0 : Nat) : Int) ∧ zit (fun v u => if g (v : Int) < 0 then u else u ||| 2 ^ v) k 0 < 64
  | 0, _ => ⟨rfl, by show (0 : Nat) < 64; omega⟩
  | k + 1, hk => by
    obtain ⟨a, b⟩ := zgb_e hf k (by omega)
    have hs := zB_shl k (by omega)
    have ho := zB_or _ b _ hs.2
    have hfk := hf (k : Int) (by omega) (by omega)
    show (if f (k : Int) < 0 then _ else zx_or _ (zx_shl 1 k)) = (((if g (k : Int) < 0 then _ else _ : Nat)) : Int) ∧ (if g (k : Int) < 0 then _ else _) < 64
    by_cases hg : g (k : Int) < 0
    · rw [if_pos hg] at hfk ⊢
      rw [if_pos (by omega)]
      exact ⟨a, b⟩
    · rw [if_neg hg] at hfk ⊢
      rw [if_neg (by omega), a, hs.1, ho.1]
      exact ⟨rfl, ho.2⟩
set_option maxHeartbeats 4000000 in
set_option maxRecDepth 100000 in
/-- Division.operandBits -/
theorem s_138 {h : zM} {x : Int} {t : Nat → Int} (hx : zSp h 12 x t) (ht : zWS t) {Q : zQ} (hq : Q (some (.inl ((zob (t 2) ||| zob (t 4) : Nat) : Int))) h) : zR 138 [.inr (.inr 12), .inl x] h Q := by
  unfold zWS at ht
  have ho := zB_or _ (zob_b (o := t 2) (by omega)) _ (zob_b (o := t 4) (by omega))
  rw [← ho.1] at hq
  refine zx_met0 zk_138 (Or.inl rfl) (Nat.le_of_ble_eq_true rfl) 1000 (fun hok hM => ?_)
  refine s_199t (by unfold zWb; omega) hx 2 (by omega) ?_
  refine s_45 (by omega) (fun c2 => ?_) (fun c2 => ?_)
  · refine s_199t (by unfold zWb; omega) hx 4 (by omega) ?_
    refine s_45 (by omega) (fun c4 => ?_) (fun c4 => ?_)
    · first
      | (rw [zob, if_pos c2, zob, if_pos c4] at hq; exact hq)
      | (rw [zob, if_pos c2, ← zob_e (by omega)] at hq; exact hq)
      | (rw [← zob_e (o := t 2) (by omega), zob, if_pos c4] at hq; exact hq)
      | (rw [← zob_e (o := t 2) (by omega), ← zob_e (o := t 4) (by omega)] at hq; exact hq)
    · first
      | (rw [zob, if_pos c2, zob, if_pos c4] at hq; exact hq)
      | (rw [zob, if_pos c2, ← zob_e (by omega)] at hq; exact hq)
      | (rw [← zob_e (o := t 2) (by omega), zob, if_pos c4] at hq; exact hq)
      | (rw [← zob_e (o := t 2) (by omega), ← zob_e (o := t 4) (by omega)] at hq; exact hq)
  · refine s_199t (by unfold zWb; omega) hx 4 (by omega) ?_
    refine s_45 (by omega) (fun c4 => ?_) (fun c4 => ?_)
    · first
      | (rw [zob, if_pos c2, zob, if_pos c4] at hq; exact hq)
      | (rw [zob, if_pos c2, ← zob_e (by omega)] at hq; exact hq)
      | (rw [← zob_e (o := t 2) (by omega), zob, if_pos c4] at hq; exact hq)
      | (rw [← zob_e (o := t 2) (by omega), ← zob_e (o := t 4) (by omega)] at hq; exact hq)
    · first
      | (rw [zob, if_pos c2, zob, if_pos c4] at hq; exact hq)
      | (rw [zob, if_pos c2, ← zob_e (by omega)] at hq; exact hq)
      | (rw [← zob_e (o := t 2) (by omega), zob, if_pos c4] at hq; exact hq)
      | (rw [← zob_e (o := t 2) (by omega), ← zob_e (o := t 4) (by omega)] at hq; exact hq)
set_option maxHeartbeats 4000000 in
set_option maxRecDepth 100000 in
/-- Division.spreadsUnknown -/
theorem s_134 {h : zM} {G : zG} (hp : zPc h 12 44 G) (hw : zWf G) {u : Nat} (hu : u < 64) (hd : h 53 1 = (u : Int)) {Q : zQ} (hq : ∀ h2, zF (fun r k => Nat.beq r 53 && decide (k = 1)) h h2 → h2 53 1 = (zukp G.2.2.2.1 G.2.2.1 u : Int) → Q (some (.inl (if zukp G.2.2.2.1 G.2.2.1 u = u then 0 else 1))) h2) : zR 134 [.inr (.inr 53), .inr (.inr 12)] h Q := by
  have h8 := hp.2.1
  have hn := hw.2.1
  refine zx_met zk_134 (Or.inr ⟨_, _, rfl, rfl⟩) (Nat.le_of_ble_eq_true rfl) (fun _ => false) 1000 (fun m j L S h2 => j = 5 ∧ S = [] ∧ ∃ i : Nat, L = [some (.inr (.inr 53)), some (.inr (.inr 12)), some (.inl (h 53 1)), some (.inl (i : Int))] ∧ i ≤ G.2.2.1 ∧ m = G.2.2.1 - i ∧ zF (fun r k => Nat.beq r 53 && decide (k = 1)) h h2 ∧ h2 53 1 = (zukp G.2.2.2.1 i u : Int)) (fun hok hM => ?_) (fun hok hM => ?_)
  · exact ⟨_, rfl, rfl, 0, rfl, by omega, rfl, zF.rf, hd⟩
  · rintro m j L S h2 hM2 ⟨rfl, rfl, i, rfl, hi, hm, hF, hd2⟩
    have e8 : h2 12 8 = h 12 8 := hF _ _ rfl
    have hb := (zukp_g hu i (fun x hx => hw.2.2.2.1 x (by omega))).1
    constructor
    · intro c1
      have hx := (hp.sp hw (show i < G.2.2.1 by omega) rfl).fr (h2 := h2) (fun _ => hF _ _ rfl) (fun _ => hF _ _ rfl)
      have ht := hw.2.2.2.1 i (by omega)
      have ht2 := ht
      unfold zWS at ht2
      refine s_199t (by unfold zWb; omega) hx 0 (by omega) ?_
      constructor
      · intro c2
        refine s_138 hx ht ?_
        have ha := zB_and _ (zB_or _ (zob_b (o := G.2.2.2.1 i 2) (by omega)) _ (zob_b (o := G.2.2.2.1 i 4) (by omega))).2 _ hb
        have hz := zub_or hb (a := G.2.2.2.1 i 2) (b := G.2.2.2.1 i 4) (by omega) (by omega)
        constructor
        · intro c3
          rw [hd2, ha.1] at c3
          refine And.intro (by omega) ?_
          first
          | (refine ⟨G.2.2.1 - (i + 1), by omega, rfl, rfl, i + 1, rfl, by omega, rfl, hF.st rfl, ?_⟩
             rw [zst_eq]
             have hs := zB_shl (G.2.2.2.1 i 1).toNat (by omega)
             rw [Int.toNat_of_nonneg (by omega)] at hs
             have ho := zB_or _ hb _ hs.2
             rw [hd2, hs.1, ho.1]
             show _ = ((zuk1 (G.2.2.2.1 i) (zukp G.2.2.2.1 i u) : Nat) : Int)
             rw [zuk1, if_pos]
             refine ⟨by assumption, ?_⟩
             cases q2 : zub (zukp G.2.2.2.1 i u) (G.2.2.2.1 i 2)
             · cases q4 : zub (zukp G.2.2.2.1 i u) (G.2.2.2.1 i 4)
               · have := hz.mpr ⟨q2, q4⟩
                 omega
               · right; rfl
             · left; rfl)
          | (refine ⟨G.2.2.1 - (i + 1), by omega, rfl, rfl, i + 1, rfl, by omega, rfl, hF, ?_⟩
             rw [hd2]
             show _ = ((zuk1 (G.2.2.2.1 i) (zukp G.2.2.2.1 i u) : Nat) : Int)
             rw [zuk1, if_neg]
             rintro ⟨q0, q1⟩
             first
             | (have hz2 := hz.mp (by omega)
                rw [hz2.1, hz2.2] at q1
                simp at q1)
             | omega)
        · intro c3
          rw [hd2, ha.1] at c3
          refine s_199t (by unfold zWb; omega) hx 1 (by omega) ?_
          refine And.intro (by omega) ?_
          first
          | (refine ⟨G.2.2.1 - (i + 1), by omega, rfl, rfl, i + 1, rfl, by omega, rfl, hF.st rfl, ?_⟩
             rw [zst_eq]
             have hs := zB_shl (G.2.2.2.1 i 1).toNat (by omega)
             rw [Int.toNat_of_nonneg (by omega)] at hs
             have ho := zB_or _ hb _ hs.2
             rw [hd2, hs.1, ho.1]
             show _ = ((zuk1 (G.2.2.2.1 i) (zukp G.2.2.2.1 i u) : Nat) : Int)
             rw [zuk1, if_pos]
             refine ⟨by assumption, ?_⟩
             cases q2 : zub (zukp G.2.2.2.1 i u) (G.2.2.2.1 i 2)
             · cases q4 : zub (zukp G.2.2.2.1 i u) (G.2.2.2.1 i 4)
               · have := hz.mpr ⟨q2, q4⟩
                 omega
               · right; rfl
             · left; rfl)
          | (refine ⟨G.2.2.1 - (i + 1), by omega, rfl, rfl, i + 1, rfl, by omega, rfl, hF, ?_⟩
             rw [hd2]
             show _ = ((zuk1 (G.2.2.2.1 i) (zukp G.2.2.2.1 i u) : Nat) : Int)
             rw [zuk1, if_neg]
             rintro ⟨q0, q1⟩
             first
             | (have hz2 := hz.mp (by omega)
                rw [hz2.1, hz2.2] at q1
                simp at q1)
             | omega)
      · intro c2
        refine And.intro (by omega) ?_
        first
        | (refine ⟨G.2.2.1 - (i + 1), by omega, rfl, rfl, i + 1, rfl, by omega, rfl, hF.st rfl, ?_⟩
           rw [zst_eq]
           have hs := zB_shl (G.2.2.2.1 i 1).toNat (by omega)
           rw [Int.toNat_of_nonneg (by omega)] at hs
           have ho := zB_or _ hb _ hs.2
           rw [hd2, hs.1, ho.1]
           show _ = ((zuk1 (G.2.2.2.1 i) (zukp G.2.2.2.1 i u) : Nat) : Int)
           rw [zuk1, if_pos]
           refine ⟨by assumption, ?_⟩
           cases q2 : zub (zukp G.2.2.2.1 i u) (G.2.2.2.1 i 2)
           · cases q4 : zub (zukp G.2.2.2.1 i u) (G.2.2.2.1 i 4)
             · have := hz.mpr ⟨q2, q4⟩
               omega
             · right; rfl
           · left; rfl)
        | (refine ⟨G.2.2.1 - (i + 1), by omega, rfl, rfl, i + 1, rfl, by omega, rfl, hF, ?_⟩
           rw [hd2]
           show _ = ((zuk1 (G.2.2.2.1 i) (zukp G.2.2.2.1 i u) : Nat) : Int)
           rw [zuk1, if_neg]
           rintro ⟨q0, q1⟩
           first
           | (have hz2 := hz.mp (by omega)
              rw [hz2.1, hz2.2] at q1
              simp at q1)
           | omega)
    · intro c1
      constructor
      · intro c4
        rw [hd2, hd] at c4
        refine And.intro (by first | exact Or.inl rfl | exact Or.inr rfl | omega) ?_
        have hi2 : i = G.2.2.1 := by omega
        subst hi2
        have hq := hq _ hF hd2
        first
        | (rw [if_pos (by omega)] at hq; exact hq)
        | (rw [if_neg (by omega)] at hq; exact hq)
      · intro c4
        rw [hd2, hd] at c4
        refine And.intro (by first | exact Or.inl rfl | exact Or.inr rfl | omega) ?_
        have hi2 : i = G.2.2.1 := by omega
        subst hi2
        have hq := hq _ hF hd2
        first
        | (rw [if_pos (by omega)] at hq; exact hq)
        | (rw [if_neg (by omega)] at hq; exact hq)
set_option maxHeartbeats 4000000 in
set_option maxRecDepth 100000 in
/-- Division.aheadAt -/
theorem s_137 {h : zM} {b : Int} {Q : zQ} (h1 : 0 ≤ b ∧ b < 8 → Q (some (.inl (h 54 b))) h) (h0 : ¬ (0 ≤ b ∧ b < 8) → Q (some (.inl 0)) h) : zR 137 [.inr (.inr 53), .inl b] h Q := by
  refine zx_met0 zk_137 (Or.inr ⟨_, _, rfl, rfl⟩) (Nat.le_of_ble_eq_true rfl) 1000 (fun hok hM => ?_)
  constructor
  · intro c1
    first | exact h1 (by omega) | exact h0 (by omega)
  · intro c1
    constructor
    · intro c2
      refine And.intro (by show 0 ≤ _ ∧ _ < (8 : Int); omega) ?_
      first | exact h1 (by omega) | exact h0 (by omega)
    · intro c2
      first | exact h1 (by omega) | exact h0 (by omega)
set_option maxHeartbeats 4000000 in
set_option maxRecDepth 100000 in
/-- Division.aheadOfSteps -/
theorem s_136 {h : zM} {W : zW} (hv : zVw h 12 W) (hw : zWw W) (h8 : W.1 ≤ 8) {b : Nat} (hb : b < W.1) {x : Nat} (hx : x < 64) {Q : zQ} (hq : Q (some (.inl (zrs (W.2.2 b) (W.2.1 b 1).toNat x : Int))) h) : zR 136 [.inr (.inr 12), .inl (b : Int), .inl (x : Int)] h Q := by
  have hcn := (hw.2 b hb).1
  obtain ⟨f1, f2, f3, f4⟩ := hv.2.2 b hb
  have f2 : 0 ≤ h 13 (b : Int) := f2
  have f3 : h 13 (b : Int) + W.2.1 b 1 ≤ h 12 8 := f3
  have g1 : h 14 (b : Int) = W.2.1 b 1 := f1 1 (by omega) (by omega)
  have f5 : h 12 8 ≤ 24 := hv.1.2.2
  refine zx_met zk_136 (Or.inl rfl) (Nat.le_of_ble_eq_true rfl) (fun _ => false) 1000 (fun m j L S h2 => j = 14 ∧ S = [] ∧ h2 = h ∧ ∃ (k y : Nat) (i : Int), L = [some (.inr (.inr 12)), some (.inl (b : Int)), some (.inl (x : Int)), some (.inl (y : Int)), some (.inl i)] ∧ i = h 13 (b : Int) + (k : Int) - 1 ∧ (k : Int) ≤ W.2.1 b 1 ∧ m = k ∧ y < 64 ∧ zrs (W.2.2 b) (W.2.1 b 1).toNat x = zrs (W.2.2 b) k y) (fun hok hM => ?_) (fun hok hM => ?_)
  · refine And.intro (by show 0 ≤ _ ∧ _ < (8 : Int); omega) ?_
    refine And.intro (by show 0 ≤ _ ∧ _ < (8 : Int); omega) ?_
    refine And.intro (by omega) ?_
    refine And.intro (by omega) ?_
    exact ⟨_, rfl, rfl, rfl, (W.2.1 b 1).toNat, x, _, rfl, by omega, by omega, rfl, hx, rfl⟩
  · rintro m j L S h2 hM2 ⟨rfl, rfl, rfl, k, y, i, rfl, hi, hk, hm, hy, he⟩
    refine And.intro (by show 0 ≤ _ ∧ _ < (8 : Int); omega) ?_
    constructor
    · intro c1
      have k0 : k = 0 := by omega
      subst k0
      rw [he] at hq
      exact hq
    · intro c1
      obtain ⟨k, rfl⟩ : ∃ k2, k = k2 + 1 := ⟨k - 1, by omega⟩
      have hx := f4 k (by omega)
      rw [show h2 (12 + 1) (b : Int) + (k : Int) = i by show h2 13 (b : Int) + (k : Int) = i; omega] at hx
      have ht := (hw.2 b hb).2.2 k (by omega)
      have ht2 := ht
      unfold zWS at ht2
      refine s_199t (by unfold zWb; omega) hx 0 (by omega) ?_
      constructor
      · intro c2
        refine s_199t (by unfold zWb; omega) hx 1 (by omega) ?_
        refine s_138 hx ht ?_
        refine And.intro (by omega) ?_
        first
        | (have hcl := zB_clr y hy (W.2.2 b k 1).toNat (by omega)
           rw [Int.toNat_of_nonneg (by omega)] at hcl
           have ho := zB_or _ hcl.2 _ (zB_or _ (zob_b (o := W.2.2 b k 2) (by omega)) _ (zob_b (o := W.2.2 b k 4) (by omega))).2
           refine ⟨k, by omega, rfl, rfl, rfl, k, zrs1 (W.2.2 b k) y, i + -1, ?_, by omega, by omega, rfl, zrs1_b ht hy, he⟩
           rw [hcl.1, ho.1, zrs1, if_pos (by assumption)]
           rfl)
        | (have ho := zB_or _ hy _ (zB_or _ (zob_b (o := W.2.2 b k 2) (by omega)) _ (zob_b (o := W.2.2 b k 4) (by omega))).2
           refine ⟨k, by omega, rfl, rfl, rfl, k, zrs1 (W.2.2 b k) y, i + -1, ?_, by omega, by omega, rfl, zrs1_b ht hy, he⟩
           rw [ho.1, zrs1, if_neg (by assumption)]
           rfl)
      · intro c2
        refine s_138 hx ht ?_
        refine And.intro (by omega) ?_
        first
        | (have hcl := zB_clr y hy (W.2.2 b k 1).toNat (by omega)
           rw [Int.toNat_of_nonneg (by omega)] at hcl
           have ho := zB_or _ hcl.2 _ (zB_or _ (zob_b (o := W.2.2 b k 2) (by omega)) _ (zob_b (o := W.2.2 b k 4) (by omega))).2
           refine ⟨k, by omega, rfl, rfl, rfl, k, zrs1 (W.2.2 b k) y, i + -1, ?_, by omega, by omega, rfl, zrs1_b ht hy, he⟩
           rw [hcl.1, ho.1, zrs1, if_pos (by assumption)]
           rfl)
        | (have ho := zB_or _ hy _ (zB_or _ (zob_b (o := W.2.2 b k 2) (by omega)) _ (zob_b (o := W.2.2 b k 4) (by omega))).2
           refine ⟨k, by omega, rfl, rfl, rfl, k, zrs1 (W.2.2 b k) y, i + -1, ?_, by omega, by omega, rfl, zrs1_b ht hy, he⟩
           rw [ho.1, zrs1, if_neg (by assumption)]
           rfl)
theorem s_136e {h : zM} {W : zW} (hv : zVw h 12 W) (hw : zWw W) (h8 : W.1 ≤ 8) {b : Nat} (hb : b < W.1) {x : Nat} (hx : x < 64) {X : Int} (hX : X = (x : Int)) {Q : zQ} (hq : Q (some (.inl (zrs (W.2.2 b) (W.2.1 b 1).toNat x : Int))) h) : zR 136 [.inr (.inr 12), .inl (b : Int), .inl X] h Q := by
  subst hX
  exact s_136 hv hw h8 hb hx hq
set_option maxHeartbeats 4000000 in
set_option maxRecDepth 100000 in
/-- Division.spreadsAhead -/
theorem s_135 {h : zM} {W : zW} (hv : zVw h 12 W) (hw : zWw W) (h8 : W.1 ≤ 8) {x : Nat → Nat} (hx : zpre W x) (ha : ∀ c : Nat, c < 8 → h 54 (c : Int) = (x c : Int)) {Q : zQ} (hq : ∀ h2 g, zF (fun r _ => Nat.beq r 54) h h2 → (∀ c : Nat, c < 8 → h2 54 (c : Int) = (zap W W.1 x c : Int)) → (g = 0 ∧ zap W W.1 x = x ∨ g = 1 ∧ zmu x < zmu (zap W W.1 x)) → Q (some (.inl g)) h2) : zR 135 [.inr (.inr 53), .inr (.inr 12)] h Q := by
  have h7 := hv.2.1
  refine zx_met zk_135 (Or.inr ⟨_, _, rfl, rfl⟩) (Nat.le_of_ble_eq_true rfl) (fun _ => false) 1000 (fun m j L S h2 => j = 9 ∧ S = [] ∧ ∃ (k : Nat) (y : Nat → Nat) (g i : Int) (q : Option zV), L = [some (.inr (.inr 53)), some (.inr (.inr 12)), some (.inl g), some (.inl i), q] ∧ i = (k : Int) - 1 ∧ k ≤ W.1 ∧ m = k ∧ zF (fun r _ => Nat.beq r 54) h h2 ∧ (∀ c : Nat, c < 8 → h2 54 (c : Int) = (y c : Int)) ∧ zpre W y ∧ zap W W.1 x = zap W k y ∧ (g = 0 ∧ y = x ∨ g = 1 ∧ zmu x < zmu y)) (fun hok hM => ?_) (fun hok hM => ?_)
  · refine And.intro (by first | omega | (split <;> omega)) ?_
    exact ⟨_, rfl, rfl, W.1, x, _, _, _, rfl, by split <;> omega, by omega, rfl, zF.rf, ha, hx, rfl, Or.inl ⟨rfl, rfl⟩⟩
  · rintro m j L S h2 hM2 ⟨rfl, rfl, k, y, g, i, q, rfl, hi, hk, hm, hF, ha2, hy, he, hg⟩
    have hg01 : g = 0 ∨ g = 1 := hg.imp And.left And.left
    have hv2 := hv.fr (h2 := h2) (fun w k hw => hF _ _ (zbeq_ne (by omega)))
    constructor
    · intro c1
      refine And.intro (by first | exact Or.inl rfl | exact Or.inr rfl | omega) ?_
      have k0 : k = 0 := by omega
      subst k0
      have he : zap W W.1 x = y := he
      refine hq _ g hF (by rw [he]; exact ha2) (by rw [he]; exact hg)
    · intro c1
      obtain ⟨k, rfl⟩ : ∃ k2, k = k2 + 1 := ⟨k - 1, by omega⟩
      have hkn : k < W.1 := by omega
      obtain rfl : i = (k : Int) := by omega
      obtain ⟨f1, -, -, -⟩ := hv2.2.2 k hkn
      have g2 : h2 15 (k : Int) = W.2.1 k 2 := f1 2 (by omega) (by omega)
      have g3 : h2 16 (k : Int) = W.2.1 k 3 := f1 3 (by omega) (by omega)
      have g4 : h2 17 (k : Int) = W.2.1 k 4 := f1 4 (by omega) (by omega)
      have g5 : h2 18 (k : Int) = W.2.1 k 5 := f1 5 (by omega) (by omega)
      have hE := (hw.2 k hkn).2.1
      have hE2 := hE
      unfold zWE at hE2
      have hlt := zen_b hE hy.1
      obtain ⟨hup, hch⟩ := zup_g hw h8 hy hkn
      have hak := ha2 k (by omega)
      refine And.intro (by show 0 ≤ _ ∧ _ < (8 : Int); omega) ?_
      refine s_137 (fun d1 => ?_) (fun d1 => ?_)
      · refine And.intro (by show 0 ≤ _ ∧ _ < (8 : Int); omega) ?_
        refine s_137 (fun d2 => ?_) (fun d2 => ?_)
        · refine And.intro (by show 0 ≤ _ ∧ _ < (8 : Int); omega) ?_
          constructor
          · intro c2
            refine And.intro (by show 0 ≤ _ ∧ _ < (8 : Int); omega) ?_
            refine s_136e hv2 hw h8 hkn (x := zen (W.2.1 k) y) hlt (by
              first
              | (exfalso; omega)
              | (rw [zen, if_pos (by omega), if_neg (by omega)]; decide)
              | (have e1 := ha2 (W.2.1 k 3).toNat (by omega)
                 rw [Int.toNat_of_nonneg (by omega)] at e1
                 rw [zen, if_neg (by omega), if_neg (by omega), g3, e1, Nat.or_zero]
                 exact (zB_self _ (hy.1 _)).2.1)
              | (have e1 := ha2 (W.2.1 k 3).toNat (by omega)
                 have e2 := ha2 (W.2.1 k 4).toNat (by omega)
                 rw [Int.toNat_of_nonneg (by omega)] at e1 e2
                 have hs := zB_shl (W.2.1 k 5).toNat (by omega)
                 rw [Int.toNat_of_nonneg (by omega)] at hs
                 have o1 := zB_or _ (hy.1 (W.2.1 k 3).toNat) _ (hy.1 (W.2.1 k 4).toNat)
                 have o2 := zB_or _ o1.2 _ hs.2
                 rw [zen, if_neg (by omega), if_pos (by omega), g3, g4, g5, e1, e2, hs.1, o1.1, o2.1, Nat.or_assoc])) ?_
            refine And.intro (by show 0 ≤ _ ∧ _ < (8 : Int); omega) ?_
            constructor
            · intro c3
              refine And.intro (by first | omega | (split <;> omega)) ?_
              first
              | (have e0 : zaf W y k = y k := by unfold zaf; omega
                 refine ⟨k, by omega, rfl, rfl, k, y, g, _, _, rfl, by omega, by omega, rfl, hF, ha2, hy, ?_, hg⟩
                 rw [he]
                 show zap W k (zup y k (zaf W y k)) = _
                 rw [e0, zup_same])
              | (have e0 : ¬ zaf W y k = y k := by unfold zaf; omega
                 refine ⟨k, by omega, rfl, rfl, k, zup y k (zaf W y k), 1, _, _, rfl, by omega, by omega, rfl, hF.st rfl, fun c hc => ?_, hup, he, Or.inr ⟨rfl, ?_⟩⟩
                 · by_cases ec : c = k
                   · subst ec
                     rw [zst_eq, zup, if_pos rfl]
                     rfl
                   · rw [zst_ne (by omega), zup, if_neg ec]
                     exact ha2 c hc
                 · have hch := hch.resolve_left e0
                   rcases hg with hg | hg
                   · rw [← hg.2]; exact hch
                   · omega)
            · intro c3
              refine And.intro (by show 0 ≤ _ ∧ _ < (8 : Int); omega) ?_
              refine And.intro (by first | omega | (split <;> omega)) ?_
              first
              | (have e0 : zaf W y k = y k := by unfold zaf; omega
                 refine ⟨k, by omega, rfl, rfl, k, y, g, _, _, rfl, by omega, by omega, rfl, hF, ha2, hy, ?_, hg⟩
                 rw [he]
                 show zap W k (zup y k (zaf W y k)) = _
                 rw [e0, zup_same])
              | (have e0 : ¬ zaf W y k = y k := by unfold zaf; omega
                 refine ⟨k, by omega, rfl, rfl, k, zup y k (zaf W y k), 1, _, _, rfl, by omega, by omega, rfl, hF.st rfl, fun c hc => ?_, hup, he, Or.inr ⟨rfl, ?_⟩⟩
                 · by_cases ec : c = k
                   · subst ec
                     rw [zst_eq, zup, if_pos rfl]
                     rfl
                   · rw [zst_ne (by omega), zup, if_neg ec]
                     exact ha2 c hc
                 · have hch := hch.resolve_left e0
                   rcases hg with hg | hg
                   · rw [← hg.2]; exact hch
                   · omega)
          · intro c2
            refine s_136e hv2 hw h8 hkn (x := zen (W.2.1 k) y) hlt (by
              first
              | (exfalso; omega)
              | (rw [zen, if_pos (by omega), if_neg (by omega)]; decide)
              | (have e1 := ha2 (W.2.1 k 3).toNat (by omega)
                 rw [Int.toNat_of_nonneg (by omega)] at e1
                 rw [zen, if_neg (by omega), if_neg (by omega), g3, e1, Nat.or_zero]
                 exact (zB_self _ (hy.1 _)).2.1)
              | (have e1 := ha2 (W.2.1 k 3).toNat (by omega)
                 have e2 := ha2 (W.2.1 k 4).toNat (by omega)
                 rw [Int.toNat_of_nonneg (by omega)] at e1 e2
                 have hs := zB_shl (W.2.1 k 5).toNat (by omega)
                 rw [Int.toNat_of_nonneg (by omega)] at hs
                 have o1 := zB_or _ (hy.1 (W.2.1 k 3).toNat) _ (hy.1 (W.2.1 k 4).toNat)
                 have o2 := zB_or _ o1.2 _ hs.2
                 rw [zen, if_neg (by omega), if_pos (by omega), g3, g4, g5, e1, e2, hs.1, o1.1, o2.1, Nat.or_assoc])) ?_
            refine And.intro (by show 0 ≤ _ ∧ _ < (8 : Int); omega) ?_
            constructor
            · intro c4
              refine And.intro (by first | omega | (split <;> omega)) ?_
              first
              | (have e0 : zaf W y k = y k := by unfold zaf; omega
                 refine ⟨k, by omega, rfl, rfl, k, y, g, _, _, rfl, by omega, by omega, rfl, hF, ha2, hy, ?_, hg⟩
                 rw [he]
                 show zap W k (zup y k (zaf W y k)) = _
                 rw [e0, zup_same])
              | (have e0 : ¬ zaf W y k = y k := by unfold zaf; omega
                 refine ⟨k, by omega, rfl, rfl, k, zup y k (zaf W y k), 1, _, _, rfl, by omega, by omega, rfl, hF.st rfl, fun c hc => ?_, hup, he, Or.inr ⟨rfl, ?_⟩⟩
                 · by_cases ec : c = k
                   · subst ec
                     rw [zst_eq, zup, if_pos rfl]
                     rfl
                   · rw [zst_ne (by omega), zup, if_neg ec]
                     exact ha2 c hc
                 · have hch := hch.resolve_left e0
                   rcases hg with hg | hg
                   · rw [← hg.2]; exact hch
                   · omega)
            · intro c4
              refine And.intro (by show 0 ≤ _ ∧ _ < (8 : Int); omega) ?_
              refine And.intro (by first | omega | (split <;> omega)) ?_
              first
              | (have e0 : zaf W y k = y k := by unfold zaf; omega
                 refine ⟨k, by omega, rfl, rfl, k, y, g, _, _, rfl, by omega, by omega, rfl, hF, ha2, hy, ?_, hg⟩
                 rw [he]
                 show zap W k (zup y k (zaf W y k)) = _
                 rw [e0, zup_same])
              | (have e0 : ¬ zaf W y k = y k := by unfold zaf; omega
                 refine ⟨k, by omega, rfl, rfl, k, zup y k (zaf W y k), 1, _, _, rfl, by omega, by omega, rfl, hF.st rfl, fun c hc => ?_, hup, he, Or.inr ⟨rfl, ?_⟩⟩
                 · by_cases ec : c = k
                   · subst ec
                     rw [zst_eq, zup, if_pos rfl]
                     rfl
                   · rw [zst_ne (by omega), zup, if_neg ec]
                     exact ha2 c hc
                 · have hch := hch.resolve_left e0
                   rcases hg with hg | hg
                   · rw [← hg.2]; exact hch
                   · omega)
        · refine And.intro (by show 0 ≤ _ ∧ _ < (8 : Int); omega) ?_
          constructor
          · intro c5
            refine And.intro (by show 0 ≤ _ ∧ _ < (8 : Int); omega) ?_
            refine s_136e hv2 hw h8 hkn (x := zen (W.2.1 k) y) hlt (by
              first
              | (exfalso; omega)
              | (rw [zen, if_pos (by omega), if_neg (by omega)]; decide)
              | (have e1 := ha2 (W.2.1 k 3).toNat (by omega)
                 rw [Int.toNat_of_nonneg (by omega)] at e1
                 rw [zen, if_neg (by omega), if_neg (by omega), g3, e1, Nat.or_zero]
                 exact (zB_self _ (hy.1 _)).2.1)
              | (have e1 := ha2 (W.2.1 k 3).toNat (by omega)
                 have e2 := ha2 (W.2.1 k 4).toNat (by omega)
                 rw [Int.toNat_of_nonneg (by omega)] at e1 e2
                 have hs := zB_shl (W.2.1 k 5).toNat (by omega)
                 rw [Int.toNat_of_nonneg (by omega)] at hs
                 have o1 := zB_or _ (hy.1 (W.2.1 k 3).toNat) _ (hy.1 (W.2.1 k 4).toNat)
                 have o2 := zB_or _ o1.2 _ hs.2
                 rw [zen, if_neg (by omega), if_pos (by omega), g3, g4, g5, e1, e2, hs.1, o1.1, o2.1, Nat.or_assoc])) ?_
            refine And.intro (by show 0 ≤ _ ∧ _ < (8 : Int); omega) ?_
            constructor
            · intro c6
              refine And.intro (by first | omega | (split <;> omega)) ?_
              first
              | (have e0 : zaf W y k = y k := by unfold zaf; omega
                 refine ⟨k, by omega, rfl, rfl, k, y, g, _, _, rfl, by omega, by omega, rfl, hF, ha2, hy, ?_, hg⟩
                 rw [he]
                 show zap W k (zup y k (zaf W y k)) = _
                 rw [e0, zup_same])
              | (have e0 : ¬ zaf W y k = y k := by unfold zaf; omega
                 refine ⟨k, by omega, rfl, rfl, k, zup y k (zaf W y k), 1, _, _, rfl, by omega, by omega, rfl, hF.st rfl, fun c hc => ?_, hup, he, Or.inr ⟨rfl, ?_⟩⟩
                 · by_cases ec : c = k
                   · subst ec
                     rw [zst_eq, zup, if_pos rfl]
                     rfl
                   · rw [zst_ne (by omega), zup, if_neg ec]
                     exact ha2 c hc
                 · have hch := hch.resolve_left e0
                   rcases hg with hg | hg
                   · rw [← hg.2]; exact hch
                   · omega)
            · intro c6
              refine And.intro (by show 0 ≤ _ ∧ _ < (8 : Int); omega) ?_
              refine And.intro (by first | omega | (split <;> omega)) ?_
              first
              | (have e0 : zaf W y k = y k := by unfold zaf; omega
                 refine ⟨k, by omega, rfl, rfl, k, y, g, _, _, rfl, by omega, by omega, rfl, hF, ha2, hy, ?_, hg⟩
                 rw [he]
                 show zap W k (zup y k (zaf W y k)) = _
                 rw [e0, zup_same])
              | (have e0 : ¬ zaf W y k = y k := by unfold zaf; omega
                 refine ⟨k, by omega, rfl, rfl, k, zup y k (zaf W y k), 1, _, _, rfl, by omega, by omega, rfl, hF.st rfl, fun c hc => ?_, hup, he, Or.inr ⟨rfl, ?_⟩⟩
                 · by_cases ec : c = k
                   · subst ec
                     rw [zst_eq, zup, if_pos rfl]
                     rfl
                   · rw [zst_ne (by omega), zup, if_neg ec]
                     exact ha2 c hc
                 · have hch := hch.resolve_left e0
                   rcases hg with hg | hg
                   · rw [← hg.2]; exact hch
                   · omega)
          · intro c5
            refine s_136e hv2 hw h8 hkn (x := zen (W.2.1 k) y) hlt (by
              first
              | (exfalso; omega)
              | (rw [zen, if_pos (by omega), if_neg (by omega)]; decide)
              | (have e1 := ha2 (W.2.1 k 3).toNat (by omega)
                 rw [Int.toNat_of_nonneg (by omega)] at e1
                 rw [zen, if_neg (by omega), if_neg (by omega), g3, e1, Nat.or_zero]
                 exact (zB_self _ (hy.1 _)).2.1)
              | (have e1 := ha2 (W.2.1 k 3).toNat (by omega)
                 have e2 := ha2 (W.2.1 k 4).toNat (by omega)
                 rw [Int.toNat_of_nonneg (by omega)] at e1 e2
                 have hs := zB_shl (W.2.1 k 5).toNat (by omega)
                 rw [Int.toNat_of_nonneg (by omega)] at hs
                 have o1 := zB_or _ (hy.1 (W.2.1 k 3).toNat) _ (hy.1 (W.2.1 k 4).toNat)
                 have o2 := zB_or _ o1.2 _ hs.2
                 rw [zen, if_neg (by omega), if_pos (by omega), g3, g4, g5, e1, e2, hs.1, o1.1, o2.1, Nat.or_assoc])) ?_
            refine And.intro (by show 0 ≤ _ ∧ _ < (8 : Int); omega) ?_
            constructor
            · intro c7
              refine And.intro (by first | omega | (split <;> omega)) ?_
              first
              | (have e0 : zaf W y k = y k := by unfold zaf; omega
                 refine ⟨k, by omega, rfl, rfl, k, y, g, _, _, rfl, by omega, by omega, rfl, hF, ha2, hy, ?_, hg⟩
                 rw [he]
                 show zap W k (zup y k (zaf W y k)) = _
                 rw [e0, zup_same])
              | (have e0 : ¬ zaf W y k = y k := by unfold zaf; omega
                 refine ⟨k, by omega, rfl, rfl, k, zup y k (zaf W y k), 1, _, _, rfl, by omega, by omega, rfl, hF.st rfl, fun c hc => ?_, hup, he, Or.inr ⟨rfl, ?_⟩⟩
                 · by_cases ec : c = k
                   · subst ec
                     rw [zst_eq, zup, if_pos rfl]
                     rfl
                   · rw [zst_ne (by omega), zup, if_neg ec]
                     exact ha2 c hc
                 · have hch := hch.resolve_left e0
                   rcases hg with hg | hg
                   · rw [← hg.2]; exact hch
                   · omega)
            · intro c7
              refine And.intro (by show 0 ≤ _ ∧ _ < (8 : Int); omega) ?_
              refine And.intro (by first | omega | (split <;> omega)) ?_
              first
              | (have e0 : zaf W y k = y k := by unfold zaf; omega
                 refine ⟨k, by omega, rfl, rfl, k, y, g, _, _, rfl, by omega, by omega, rfl, hF, ha2, hy, ?_, hg⟩
                 rw [he]
                 show zap W k (zup y k (zaf W y k)) = _
                 rw [e0, zup_same])
              | (have e0 : ¬ zaf W y k = y k := by unfold zaf; omega
                 refine ⟨k, by omega, rfl, rfl, k, zup y k (zaf W y k), 1, _, _, rfl, by omega, by omega, rfl, hF.st rfl, fun c hc => ?_, hup, he, Or.inr ⟨rfl, ?_⟩⟩
                 · by_cases ec : c = k
                   · subst ec
                     rw [zst_eq, zup, if_pos rfl]
                     rfl
                   · rw [zst_ne (by omega), zup, if_neg ec]
                     exact ha2 c hc
                 · have hch := hch.resolve_left e0
                   rcases hg with hg | hg
                   · rw [← hg.2]; exact hch
                   · omega)
      · refine And.intro (by show 0 ≤ _ ∧ _ < (8 : Int); omega) ?_
        refine s_137 (fun d2 => ?_) (fun d2 => ?_)
        · refine And.intro (by show 0 ≤ _ ∧ _ < (8 : Int); omega) ?_
          constructor
          · intro c8
            refine And.intro (by show 0 ≤ _ ∧ _ < (8 : Int); omega) ?_
            refine s_136e hv2 hw h8 hkn (x := zen (W.2.1 k) y) hlt (by
              first
              | (exfalso; omega)
              | (rw [zen, if_pos (by omega), if_neg (by omega)]; decide)
              | (have e1 := ha2 (W.2.1 k 3).toNat (by omega)
                 rw [Int.toNat_of_nonneg (by omega)] at e1
                 rw [zen, if_neg (by omega), if_neg (by omega), g3, e1, Nat.or_zero]
                 exact (zB_self _ (hy.1 _)).2.1)
              | (have e1 := ha2 (W.2.1 k 3).toNat (by omega)
                 have e2 := ha2 (W.2.1 k 4).toNat (by omega)
                 rw [Int.toNat_of_nonneg (by omega)] at e1 e2
                 have hs := zB_shl (W.2.1 k 5).toNat (by omega)
                 rw [Int.toNat_of_nonneg (by omega)] at hs
                 have o1 := zB_or _ (hy.1 (W.2.1 k 3).toNat) _ (hy.1 (W.2.1 k 4).toNat)
                 have o2 := zB_or _ o1.2 _ hs.2
                 rw [zen, if_neg (by omega), if_pos (by omega), g3, g4, g5, e1, e2, hs.1, o1.1, o2.1, Nat.or_assoc])) ?_
            refine And.intro (by show 0 ≤ _ ∧ _ < (8 : Int); omega) ?_
            constructor
            · intro c9
              refine And.intro (by first | omega | (split <;> omega)) ?_
              first
              | (have e0 : zaf W y k = y k := by unfold zaf; omega
                 refine ⟨k, by omega, rfl, rfl, k, y, g, _, _, rfl, by omega, by omega, rfl, hF, ha2, hy, ?_, hg⟩
                 rw [he]
                 show zap W k (zup y k (zaf W y k)) = _
                 rw [e0, zup_same])
              | (have e0 : ¬ zaf W y k = y k := by unfold zaf; omega
                 refine ⟨k, by omega, rfl, rfl, k, zup y k (zaf W y k), 1, _, _, rfl, by omega, by omega, rfl, hF.st rfl, fun c hc => ?_, hup, he, Or.inr ⟨rfl, ?_⟩⟩
                 · by_cases ec : c = k
                   · subst ec
                     rw [zst_eq, zup, if_pos rfl]
                     rfl
                   · rw [zst_ne (by omega), zup, if_neg ec]
                     exact ha2 c hc
                 · have hch := hch.resolve_left e0
                   rcases hg with hg | hg
                   · rw [← hg.2]; exact hch
                   · omega)
            · intro c9
              refine And.intro (by show 0 ≤ _ ∧ _ < (8 : Int); omega) ?_
              refine And.intro (by first | omega | (split <;> omega)) ?_
              first
              | (have e0 : zaf W y k = y k := by unfold zaf; omega
                 refine ⟨k, by omega, rfl, rfl, k, y, g, _, _, rfl, by omega, by omega, rfl, hF, ha2, hy, ?_, hg⟩
                 rw [he]
                 show zap W k (zup y k (zaf W y k)) = _
                 rw [e0, zup_same])
              | (have e0 : ¬ zaf W y k = y k := by unfold zaf; omega
                 refine ⟨k, by omega, rfl, rfl, k, zup y k (zaf W y k), 1, _, _, rfl, by omega, by omega, rfl, hF.st rfl, fun c hc => ?_, hup, he, Or.inr ⟨rfl, ?_⟩⟩
                 · by_cases ec : c = k
                   · subst ec
                     rw [zst_eq, zup, if_pos rfl]
                     rfl
                   · rw [zst_ne (by omega), zup, if_neg ec]
                     exact ha2 c hc
                 · have hch := hch.resolve_left e0
                   rcases hg with hg | hg
                   · rw [← hg.2]; exact hch
                   · omega)
          · intro c8
            refine s_136e hv2 hw h8 hkn (x := zen (W.2.1 k) y) hlt (by
              first
              | (exfalso; omega)
              | (rw [zen, if_pos (by omega), if_neg (by omega)]; decide)
              | (have e1 := ha2 (W.2.1 k 3).toNat (by omega)
                 rw [Int.toNat_of_nonneg (by omega)] at e1
                 rw [zen, if_neg (by omega), if_neg (by omega), g3, e1, Nat.or_zero]
                 exact (zB_self _ (hy.1 _)).2.1)
              | (have e1 := ha2 (W.2.1 k 3).toNat (by omega)
                 have e2 := ha2 (W.2.1 k 4).toNat (by omega)
                 rw [Int.toNat_of_nonneg (by omega)] at e1 e2
                 have hs := zB_shl (W.2.1 k 5).toNat (by omega)
                 rw [Int.toNat_of_nonneg (by omega)] at hs
                 have o1 := zB_or _ (hy.1 (W.2.1 k 3).toNat) _ (hy.1 (W.2.1 k 4).toNat)
                 have o2 := zB_or _ o1.2 _ hs.2
                 rw [zen, if_neg (by omega), if_pos (by omega), g3, g4, g5, e1, e2, hs.1, o1.1, o2.1, Nat.or_assoc])) ?_
            refine And.intro (by show 0 ≤ _ ∧ _ < (8 : Int); omega) ?_
            constructor
            · intro c10
              refine And.intro (by first | omega | (split <;> omega)) ?_
              first
              | (have e0 : zaf W y k = y k := by unfold zaf; omega
                 refine ⟨k, by omega, rfl, rfl, k, y, g, _, _, rfl, by omega, by omega, rfl, hF, ha2, hy, ?_, hg⟩
                 rw [he]
                 show zap W k (zup y k (zaf W y k)) = _
                 rw [e0, zup_same])
              | (have e0 : ¬ zaf W y k = y k := by unfold zaf; omega
                 refine ⟨k, by omega, rfl, rfl, k, zup y k (zaf W y k), 1, _, _, rfl, by omega, by omega, rfl, hF.st rfl, fun c hc => ?_, hup, he, Or.inr ⟨rfl, ?_⟩⟩
                 · by_cases ec : c = k
                   · subst ec
                     rw [zst_eq, zup, if_pos rfl]
                     rfl
                   · rw [zst_ne (by omega), zup, if_neg ec]
                     exact ha2 c hc
                 · have hch := hch.resolve_left e0
                   rcases hg with hg | hg
                   · rw [← hg.2]; exact hch
                   · omega)
            · intro c10
              refine And.intro (by show 0 ≤ _ ∧ _ < (8 : Int); omega) ?_
              refine And.intro (by first | omega | (split <;> omega)) ?_
              first
              | (have e0 : zaf W y k = y k := by unfold zaf; omega
                 refine ⟨k, by omega, rfl, rfl, k, y, g, _, _, rfl, by omega, by omega, rfl, hF, ha2, hy, ?_, hg⟩
                 rw [he]
                 show zap W k (zup y k (zaf W y k)) = _
                 rw [e0, zup_same])
              | (have e0 : ¬ zaf W y k = y k := by unfold zaf; omega
                 refine ⟨k, by omega, rfl, rfl, k, zup y k (zaf W y k), 1, _, _, rfl, by omega, by omega, rfl, hF.st rfl, fun c hc => ?_, hup, he, Or.inr ⟨rfl, ?_⟩⟩
                 · by_cases ec : c = k
                   · subst ec
                     rw [zst_eq, zup, if_pos rfl]
                     rfl
                   · rw [zst_ne (by omega), zup, if_neg ec]
                     exact ha2 c hc
                 · have hch := hch.resolve_left e0
                   rcases hg with hg | hg
                   · rw [← hg.2]; exact hch
                   · omega)
        · refine And.intro (by show 0 ≤ _ ∧ _ < (8 : Int); omega) ?_
          constructor
          · intro c11
            refine And.intro (by show 0 ≤ _ ∧ _ < (8 : Int); omega) ?_
            refine s_136e hv2 hw h8 hkn (x := zen (W.2.1 k) y) hlt (by
              first
              | (exfalso; omega)
              | (rw [zen, if_pos (by omega), if_neg (by omega)]; decide)
              | (have e1 := ha2 (W.2.1 k 3).toNat (by omega)
                 rw [Int.toNat_of_nonneg (by omega)] at e1
                 rw [zen, if_neg (by omega), if_neg (by omega), g3, e1, Nat.or_zero]
                 exact (zB_self _ (hy.1 _)).2.1)
              | (have e1 := ha2 (W.2.1 k 3).toNat (by omega)
                 have e2 := ha2 (W.2.1 k 4).toNat (by omega)
                 rw [Int.toNat_of_nonneg (by omega)] at e1 e2
                 have hs := zB_shl (W.2.1 k 5).toNat (by omega)
                 rw [Int.toNat_of_nonneg (by omega)] at hs
                 have o1 := zB_or _ (hy.1 (W.2.1 k 3).toNat) _ (hy.1 (W.2.1 k 4).toNat)
                 have o2 := zB_or _ o1.2 _ hs.2
                 rw [zen, if_neg (by omega), if_pos (by omega), g3, g4, g5, e1, e2, hs.1, o1.1, o2.1, Nat.or_assoc])) ?_
            refine And.intro (by show 0 ≤ _ ∧ _ < (8 : Int); omega) ?_
            constructor
            · intro c12
              refine And.intro (by first | omega | (split <;> omega)) ?_
              first
              | (have e0 : zaf W y k = y k := by unfold zaf; omega
                 refine ⟨k, by omega, rfl, rfl, k, y, g, _, _, rfl, by omega, by omega, rfl, hF, ha2, hy, ?_, hg⟩
                 rw [he]
                 show zap W k (zup y k (zaf W y k)) = _
                 rw [e0, zup_same])
              | (have e0 : ¬ zaf W y k = y k := by unfold zaf; omega
                 refine ⟨k, by omega, rfl, rfl, k, zup y k (zaf W y k), 1, _, _, rfl, by omega, by omega, rfl, hF.st rfl, fun c hc => ?_, hup, he, Or.inr ⟨rfl, ?_⟩⟩
                 · by_cases ec : c = k
                   · subst ec
                     rw [zst_eq, zup, if_pos rfl]
                     rfl
                   · rw [zst_ne (by omega), zup, if_neg ec]
                     exact ha2 c hc
                 · have hch := hch.resolve_left e0
                   rcases hg with hg | hg
                   · rw [← hg.2]; exact hch
                   · omega)
            · intro c12
              refine And.intro (by show 0 ≤ _ ∧ _ < (8 : Int); omega) ?_
              refine And.intro (by first | omega | (split <;> omega)) ?_
              first
              | (have e0 : zaf W y k = y k := by unfold zaf; omega
                 refine ⟨k, by omega, rfl, rfl, k, y, g, _, _, rfl, by omega, by omega, rfl, hF, ha2, hy, ?_, hg⟩
                 rw [he]
                 show zap W k (zup y k (zaf W y k)) = _
                 rw [e0, zup_same])
              | (have e0 : ¬ zaf W y k = y k := by unfold zaf; omega
                 refine ⟨k, by omega, rfl, rfl, k, zup y k (zaf W y k), 1, _, _, rfl, by omega, by omega, rfl, hF.st rfl, fun c hc => ?_, hup, he, Or.inr ⟨rfl, ?_⟩⟩
                 · by_cases ec : c = k
                   · subst ec
                     rw [zst_eq, zup, if_pos rfl]
                     rfl
                   · rw [zst_ne (by omega), zup, if_neg ec]
                     exact ha2 c hc
                 · have hch := hch.resolve_left e0
                   rcases hg with hg | hg
                   · rw [← hg.2]; exact hch
                   · omega)
          · intro c11
            refine s_136e hv2 hw h8 hkn (x := zen (W.2.1 k) y) hlt (by
              first
              | (exfalso; omega)
              | (rw [zen, if_pos (by omega), if_neg (by omega)]; decide)
              | (have e1 := ha2 (W.2.1 k 3).toNat (by omega)
                 rw [Int.toNat_of_nonneg (by omega)] at e1
                 rw [zen, if_neg (by omega), if_neg (by omega), g3, e1, Nat.or_zero]
                 exact (zB_self _ (hy.1 _)).2.1)
              | (have e1 := ha2 (W.2.1 k 3).toNat (by omega)
                 have e2 := ha2 (W.2.1 k 4).toNat (by omega)
                 rw [Int.toNat_of_nonneg (by omega)] at e1 e2
                 have hs := zB_shl (W.2.1 k 5).toNat (by omega)
                 rw [Int.toNat_of_nonneg (by omega)] at hs
                 have o1 := zB_or _ (hy.1 (W.2.1 k 3).toNat) _ (hy.1 (W.2.1 k 4).toNat)
                 have o2 := zB_or _ o1.2 _ hs.2
                 rw [zen, if_neg (by omega), if_pos (by omega), g3, g4, g5, e1, e2, hs.1, o1.1, o2.1, Nat.or_assoc])) ?_
            refine And.intro (by show 0 ≤ _ ∧ _ < (8 : Int); omega) ?_
            constructor
            · intro c13
              refine And.intro (by first | omega | (split <;> omega)) ?_
              first
              | (have e0 : zaf W y k = y k := by unfold zaf; omega
                 refine ⟨k, by omega, rfl, rfl, k, y, g, _, _, rfl, by omega, by omega, rfl, hF, ha2, hy, ?_, hg⟩
                 rw [he]
                 show zap W k (zup y k (zaf W y k)) = _
                 rw [e0, zup_same])
              | (have e0 : ¬ zaf W y k = y k := by unfold zaf; omega
                 refine ⟨k, by omega, rfl, rfl, k, zup y k (zaf W y k), 1, _, _, rfl, by omega, by omega, rfl, hF.st rfl, fun c hc => ?_, hup, he, Or.inr ⟨rfl, ?_⟩⟩
                 · by_cases ec : c = k
                   · subst ec
                     rw [zst_eq, zup, if_pos rfl]
                     rfl
                   · rw [zst_ne (by omega), zup, if_neg ec]
                     exact ha2 c hc
                 · have hch := hch.resolve_left e0
                   rcases hg with hg | hg
                   · rw [← hg.2]; exact hch
                   · omega)
            · intro c13
              refine And.intro (by show 0 ≤ _ ∧ _ < (8 : Int); omega) ?_
              refine And.intro (by first | omega | (split <;> omega)) ?_
              first
              | (have e0 : zaf W y k = y k := by unfold zaf; omega
                 refine ⟨k, by omega, rfl, rfl, k, y, g, _, _, rfl, by omega, by omega, rfl, hF, ha2, hy, ?_, hg⟩
                 rw [he]
                 show zap W k (zup y k (zaf W y k)) = _
                 rw [e0, zup_same])
              | (have e0 : ¬ zaf W y k = y k := by unfold zaf; omega
                 refine ⟨k, by omega, rfl, rfl, k, zup y k (zaf W y k), 1, _, _, rfl, by omega, by omega, rfl, hF.st rfl, fun c hc => ?_, hup, he, Or.inr ⟨rfl, ?_⟩⟩
                 · by_cases ec : c = k
                   · subst ec
                     rw [zst_eq, zup, if_pos rfl]
                     rfl
                   · rw [zst_ne (by omega), zup, if_neg ec]
                     exact ha2 c hc
                 · have hch := hch.resolve_left e0
                   rcases hg with hg | hg
                   · rw [← hg.2]; exact hch
                   · omega)
