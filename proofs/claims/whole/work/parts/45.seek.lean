/-! The class's webs grow; points are sought -/
def zOf (b : Nat) (n : Int) : Nat → Int → Bool := fun r j => (Nat.beq r b && decide (j = 7)) || (Nat.ble (b + 1) r && Nat.ble r (b + 6) && decide (j = n))
theorem zOf_r {b : Nat} {n : Int} {w : Nat} (h0 : 0 < w) (hw : w < 7) : zOf b n (b + w) n = true := by
  unfold zOf
  have h1 : Nat.ble (b + 1) (b + w) = true := Nat.ble_eq.mpr (by omega)
  have h2 : Nat.ble (b + w) (b + 6) = true := Nat.ble_eq.mpr (by omega)
  simp [h1, h2]
theorem zOf_b {b : Nat} {n : Int} : zOf b n b 7 = true := by
  unfold zOf
  simp
theorem s_195e {b : Nat} (hb : zWb b) {p q e x y v : Int} (hpq : p = q) {h : zM} {Q : zQ} (hk : h b 7 ≤ zWn b) (hq : 0 ≤ q ∧ q < h b 7) (h1 : Q none (zx_st (zx_st (zx_st (zx_st h (b + 3) q e) (b + 4) q x) (b + 5) q y) (b + 6) q v)) : zR 195 [.inr (.inr b), .inl p, .inl e, .inl x, .inl y, .inl v] h Q := by
  subst hpq
  exact s_195 hb hk (fun _ => h1) (fun c => absurd hq c)
theorem s_193e {b : Nat} (hb : zWb b) {p q : Int} (hpq : p = q) {h : zM} {Q : zQ} (hk : h b 7 ≤ zWn b) (hq : 0 ≤ q ∧ q < h b 7) (h1 : Q none (zx_st (zx_st h (b + 1) q (h b 8)) (b + 2) q 0)) : zR 193 [.inr (.inr b), .inl p] h Q := by
  subst hpq
  exact s_193 hb hk (fun _ => h1) (fun c => absurd hq c)
theorem zst5 {h : zM} {b : Nat} {n x y z u v w : Int} {f : Nat → Int → Bool} {h0 : zM} (hF : zF f h0 h) (hf : ∀ w : Nat, 0 < w → w < 7 → f (b + w) n = true) : zF f h0 (zx_st (zx_st (zx_st (zx_st h (b + 3) n x) (b + 4) n y) (b + 5) n z) (b + 6) n u) ∧ zF f h0 (zx_st (zx_st h (b + 1) n v) (b + 2) n w) :=
  ⟨(((hF.st (hf 3 (by omega) (by omega))).st (hf 4 (by omega) (by omega))).st (hf 5 (by omega) (by omega))).st (hf 6 (by omega) (by omega)), (hF.st (hf 1 (by omega) (by omega))).st (hf 2 (by omega) (by omega))⟩
set_option maxHeartbeats 4000000 in
set_option maxRecDepth 100000 in
/-- Web.open -/
theorem s_192_4 {h : zM} {n : Int} (hn : h 4 7 = n) (hk : 0 ≤ n) {Q : zQ} (h1 : n < 8 → ∀ h2, zF (zOf 4 n) h h2 → h2 4 7 = n + 1 → h2 (4 + 1) n = h 4 8 → h2 (4 + 2) n = 0 → h2 (4 + 3) n = 2 → h2 (4 + 4) n = -4 → h2 (4 + 5) n = -4 → h2 (4 + 6) n = -4 → Q (some (.inl 1)) h2) (h0 : ¬ n < 8 → Q (some (.inl 0)) h) : zR 192 [.inr (.inr 4)] h Q := by
  have l5 : zx_ln 5 = (8 : Int) := rfl
  subst hn
  refine zx_met0 zk_192 (Or.inr ⟨_, _, rfl, rfl⟩) (Nat.le_of_ble_eq_true rfl) 1000 (fun hok hM => ?_)
  constructor
  · intro c1
    refine And.intro (by show 0 ≤ h 4 7 ∧ h 4 7 < (8 : Int); omega) ?_
    refine And.intro (by show 0 ≤ h 4 7 ∧ h 4 7 < (8 : Int); omega) ?_
    refine And.intro (by show 0 ≤ h 4 7 ∧ h 4 7 < (8 : Int); omega) ?_
    refine And.intro (by show 0 ≤ h 4 7 ∧ h 4 7 < (8 : Int); omega) ?_
    refine And.intro (by show 0 ≤ h 4 7 ∧ h 4 7 < (8 : Int); omega) ?_
    refine And.intro (by show 0 ≤ h 4 7 ∧ h 4 7 < (8 : Int); omega) ?_
    refine And.intro (by show -2147483648 ≤ h 4 7 + 1 ∧ h 4 7 + 1 < 2147483648; omega) ?_
    refine And.intro (by first | exact Or.inl rfl | exact Or.inr rfl | omega) ?_
    first
    | exact h0 (by omega)
    | (refine h1 (by omega) _ (((((((zF.rf.st (zOf_r (b := 4) (w := 1) (by decide) (by decide))).st (zOf_r (b := 4) (w := 2) (by decide) (by decide))).st (zOf_r (b := 4) (w := 3) (by decide) (by decide))).st (zOf_r (b := 4) (w := 4) (by decide) (by decide))).st (zOf_r (b := 4) (w := 5) (by decide) (by decide))).st (zOf_r (b := 4) (w := 6) (by decide) (by decide))).st zOf_b) ?_ ?_ ?_ ?_ ?_ ?_ ?_
       all_goals simp [zx_st])
  · intro c1
    refine And.intro (by first | exact Or.inl rfl | exact Or.inr rfl | omega) ?_
    first
    | exact h0 (by omega)
    | (refine h1 (by omega) _ (((((((zF.rf.st (zOf_r (b := 4) (w := 1) (by decide) (by decide))).st (zOf_r (b := 4) (w := 2) (by decide) (by decide))).st (zOf_r (b := 4) (w := 3) (by decide) (by decide))).st (zOf_r (b := 4) (w := 4) (by decide) (by decide))).st (zOf_r (b := 4) (w := 5) (by decide) (by decide))).st (zOf_r (b := 4) (w := 6) (by decide) (by decide))).st zOf_b) ?_ ?_ ?_ ?_ ?_ ?_ ?_
       all_goals simp [zx_st])
set_option maxHeartbeats 4000000 in
set_option maxRecDepth 100000 in
/-- Web.open -/
theorem s_192_12 {h : zM} {n : Int} (hn : h 12 7 = n) (hk : 0 ≤ n) {Q : zQ} (h1 : n < 8 → ∀ h2, zF (zOf 12 n) h h2 → h2 12 7 = n + 1 → h2 (12 + 1) n = h 12 8 → h2 (12 + 2) n = 0 → h2 (12 + 3) n = 2 → h2 (12 + 4) n = -4 → h2 (12 + 5) n = -4 → h2 (12 + 6) n = -4 → Q (some (.inl 1)) h2) (h0 : ¬ n < 8 → Q (some (.inl 0)) h) : zR 192 [.inr (.inr 12)] h Q := by
  have l13 : zx_ln 13 = (8 : Int) := rfl
  subst hn
  refine zx_met0 zk_192 (Or.inr ⟨_, _, rfl, rfl⟩) (Nat.le_of_ble_eq_true rfl) 1000 (fun hok hM => ?_)
  constructor
  · intro c1
    refine And.intro (by show 0 ≤ h 12 7 ∧ h 12 7 < (8 : Int); omega) ?_
    refine And.intro (by show 0 ≤ h 12 7 ∧ h 12 7 < (8 : Int); omega) ?_
    refine And.intro (by show 0 ≤ h 12 7 ∧ h 12 7 < (8 : Int); omega) ?_
    refine And.intro (by show 0 ≤ h 12 7 ∧ h 12 7 < (8 : Int); omega) ?_
    refine And.intro (by show 0 ≤ h 12 7 ∧ h 12 7 < (8 : Int); omega) ?_
    refine And.intro (by show 0 ≤ h 12 7 ∧ h 12 7 < (8 : Int); omega) ?_
    refine And.intro (by show -2147483648 ≤ h 12 7 + 1 ∧ h 12 7 + 1 < 2147483648; omega) ?_
    refine And.intro (by first | exact Or.inl rfl | exact Or.inr rfl | omega) ?_
    first
    | exact h0 (by omega)
    | (refine h1 (by omega) _ (((((((zF.rf.st (zOf_r (b := 12) (w := 1) (by decide) (by decide))).st (zOf_r (b := 12) (w := 2) (by decide) (by decide))).st (zOf_r (b := 12) (w := 3) (by decide) (by decide))).st (zOf_r (b := 12) (w := 4) (by decide) (by decide))).st (zOf_r (b := 12) (w := 5) (by decide) (by decide))).st (zOf_r (b := 12) (w := 6) (by decide) (by decide))).st zOf_b) ?_ ?_ ?_ ?_ ?_ ?_ ?_
       all_goals simp [zx_st])
  · intro c1
    refine And.intro (by first | exact Or.inl rfl | exact Or.inr rfl | omega) ?_
    first
    | exact h0 (by omega)
    | (refine h1 (by omega) _ (((((((zF.rf.st (zOf_r (b := 12) (w := 1) (by decide) (by decide))).st (zOf_r (b := 12) (w := 2) (by decide) (by decide))).st (zOf_r (b := 12) (w := 3) (by decide) (by decide))).st (zOf_r (b := 12) (w := 4) (by decide) (by decide))).st (zOf_r (b := 12) (w := 5) (by decide) (by decide))).st (zOf_r (b := 12) (w := 6) (by decide) (by decide))).st zOf_b) ?_ ?_ ?_ ?_ ?_ ?_ ?_
       all_goals simp [zx_st])
set_option maxHeartbeats 4000000 in
set_option maxRecDepth 100000 in
/-- Web.open -/
theorem s_192_20 {h : zM} {n : Int} (hn : h 20 7 = n) (hk : 0 ≤ n) {Q : zQ} (h1 : n < 8 → ∀ h2, zF (zOf 20 n) h h2 → h2 20 7 = n + 1 → h2 (20 + 1) n = h 20 8 → h2 (20 + 2) n = 0 → h2 (20 + 3) n = 2 → h2 (20 + 4) n = -4 → h2 (20 + 5) n = -4 → h2 (20 + 6) n = -4 → Q (some (.inl 1)) h2) (h0 : ¬ n < 8 → Q (some (.inl 0)) h) : zR 192 [.inr (.inr 20)] h Q := by
  have l21 : zx_ln 21 = (8 : Int) := rfl
  subst hn
  refine zx_met0 zk_192 (Or.inr ⟨_, _, rfl, rfl⟩) (Nat.le_of_ble_eq_true rfl) 1000 (fun hok hM => ?_)
  constructor
  · intro c1
    refine And.intro (by show 0 ≤ h 20 7 ∧ h 20 7 < (8 : Int); omega) ?_
    refine And.intro (by show 0 ≤ h 20 7 ∧ h 20 7 < (8 : Int); omega) ?_
    refine And.intro (by show 0 ≤ h 20 7 ∧ h 20 7 < (8 : Int); omega) ?_
    refine And.intro (by show 0 ≤ h 20 7 ∧ h 20 7 < (8 : Int); omega) ?_
    refine And.intro (by show 0 ≤ h 20 7 ∧ h 20 7 < (8 : Int); omega) ?_
    refine And.intro (by show 0 ≤ h 20 7 ∧ h 20 7 < (8 : Int); omega) ?_
    refine And.intro (by show -2147483648 ≤ h 20 7 + 1 ∧ h 20 7 + 1 < 2147483648; omega) ?_
    refine And.intro (by first | exact Or.inl rfl | exact Or.inr rfl | omega) ?_
    first
    | exact h0 (by omega)
    | (refine h1 (by omega) _ (((((((zF.rf.st (zOf_r (b := 20) (w := 1) (by decide) (by decide))).st (zOf_r (b := 20) (w := 2) (by decide) (by decide))).st (zOf_r (b := 20) (w := 3) (by decide) (by decide))).st (zOf_r (b := 20) (w := 4) (by decide) (by decide))).st (zOf_r (b := 20) (w := 5) (by decide) (by decide))).st (zOf_r (b := 20) (w := 6) (by decide) (by decide))).st zOf_b) ?_ ?_ ?_ ?_ ?_ ?_ ?_
       all_goals simp [zx_st])
  · intro c1
    refine And.intro (by first | exact Or.inl rfl | exact Or.inr rfl | omega) ?_
    first
    | exact h0 (by omega)
    | (refine h1 (by omega) _ (((((((zF.rf.st (zOf_r (b := 20) (w := 1) (by decide) (by decide))).st (zOf_r (b := 20) (w := 2) (by decide) (by decide))).st (zOf_r (b := 20) (w := 3) (by decide) (by decide))).st (zOf_r (b := 20) (w := 4) (by decide) (by decide))).st (zOf_r (b := 20) (w := 5) (by decide) (by decide))).st (zOf_r (b := 20) (w := 6) (by decide) (by decide))).st zOf_b) ?_ ?_ ?_ ?_ ?_ ?_ ?_
       all_goals simp [zx_st])
set_option maxHeartbeats 4000000 in
set_option maxRecDepth 100000 in
/-- Web.open -/
theorem s_192_28 {h : zM} {n : Int} (hn : h 28 7 = n) (hk : 0 ≤ n) {Q : zQ} (h1 : n < 8 → ∀ h2, zF (zOf 28 n) h h2 → h2 28 7 = n + 1 → h2 (28 + 1) n = h 28 8 → h2 (28 + 2) n = 0 → h2 (28 + 3) n = 2 → h2 (28 + 4) n = -4 → h2 (28 + 5) n = -4 → h2 (28 + 6) n = -4 → Q (some (.inl 1)) h2) (h0 : ¬ n < 8 → Q (some (.inl 0)) h) : zR 192 [.inr (.inr 28)] h Q := by
  have l29 : zx_ln 29 = (8 : Int) := rfl
  subst hn
  refine zx_met0 zk_192 (Or.inr ⟨_, _, rfl, rfl⟩) (Nat.le_of_ble_eq_true rfl) 1000 (fun hok hM => ?_)
  constructor
  · intro c1
    refine And.intro (by show 0 ≤ h 28 7 ∧ h 28 7 < (8 : Int); omega) ?_
    refine And.intro (by show 0 ≤ h 28 7 ∧ h 28 7 < (8 : Int); omega) ?_
    refine And.intro (by show 0 ≤ h 28 7 ∧ h 28 7 < (8 : Int); omega) ?_
    refine And.intro (by show 0 ≤ h 28 7 ∧ h 28 7 < (8 : Int); omega) ?_
    refine And.intro (by show 0 ≤ h 28 7 ∧ h 28 7 < (8 : Int); omega) ?_
    refine And.intro (by show 0 ≤ h 28 7 ∧ h 28 7 < (8 : Int); omega) ?_
    refine And.intro (by show -2147483648 ≤ h 28 7 + 1 ∧ h 28 7 + 1 < 2147483648; omega) ?_
    refine And.intro (by first | exact Or.inl rfl | exact Or.inr rfl | omega) ?_
    first
    | exact h0 (by omega)
    | (refine h1 (by omega) _ (((((((zF.rf.st (zOf_r (b := 28) (w := 1) (by decide) (by decide))).st (zOf_r (b := 28) (w := 2) (by decide) (by decide))).st (zOf_r (b := 28) (w := 3) (by decide) (by decide))).st (zOf_r (b := 28) (w := 4) (by decide) (by decide))).st (zOf_r (b := 28) (w := 5) (by decide) (by decide))).st (zOf_r (b := 28) (w := 6) (by decide) (by decide))).st zOf_b) ?_ ?_ ?_ ?_ ?_ ?_ ?_
       all_goals simp [zx_st])
  · intro c1
    refine And.intro (by first | exact Or.inl rfl | exact Or.inr rfl | omega) ?_
    first
    | exact h0 (by omega)
    | (refine h1 (by omega) _ (((((((zF.rf.st (zOf_r (b := 28) (w := 1) (by decide) (by decide))).st (zOf_r (b := 28) (w := 2) (by decide) (by decide))).st (zOf_r (b := 28) (w := 3) (by decide) (by decide))).st (zOf_r (b := 28) (w := 4) (by decide) (by decide))).st (zOf_r (b := 28) (w := 5) (by decide) (by decide))).st (zOf_r (b := 28) (w := 6) (by decide) (by decide))).st zOf_b) ?_ ?_ ?_ ?_ ?_ ?_ ?_
       all_goals simp [zx_st])
set_option maxHeartbeats 4000000 in
set_option maxRecDepth 100000 in
/-- Web.open -/
theorem s_192_36 {h : zM} {n : Int} (hn : h 36 7 = n) (hk : 0 ≤ n) {Q : zQ} (h1 : n < 40 → ∀ h2, zF (zOf 36 n) h h2 → h2 36 7 = n + 1 → h2 (36 + 1) n = h 36 8 → h2 (36 + 2) n = 0 → h2 (36 + 3) n = 2 → h2 (36 + 4) n = -4 → h2 (36 + 5) n = -4 → h2 (36 + 6) n = -4 → Q (some (.inl 1)) h2) (h0 : ¬ n < 40 → Q (some (.inl 0)) h) : zR 192 [.inr (.inr 36)] h Q := by
  have l37 : zx_ln 37 = (40 : Int) := rfl
  subst hn
  refine zx_met0 zk_192 (Or.inr ⟨_, _, rfl, rfl⟩) (Nat.le_of_ble_eq_true rfl) 1000 (fun hok hM => ?_)
  constructor
  · intro c1
    refine And.intro (by show 0 ≤ h 36 7 ∧ h 36 7 < (40 : Int); omega) ?_
    refine And.intro (by show 0 ≤ h 36 7 ∧ h 36 7 < (40 : Int); omega) ?_
    refine And.intro (by show 0 ≤ h 36 7 ∧ h 36 7 < (40 : Int); omega) ?_
    refine And.intro (by show 0 ≤ h 36 7 ∧ h 36 7 < (40 : Int); omega) ?_
    refine And.intro (by show 0 ≤ h 36 7 ∧ h 36 7 < (40 : Int); omega) ?_
    refine And.intro (by show 0 ≤ h 36 7 ∧ h 36 7 < (40 : Int); omega) ?_
    refine And.intro (by show -2147483648 ≤ h 36 7 + 1 ∧ h 36 7 + 1 < 2147483648; omega) ?_
    refine And.intro (by first | exact Or.inl rfl | exact Or.inr rfl | omega) ?_
    first
    | exact h0 (by omega)
    | (refine h1 (by omega) _ (((((((zF.rf.st (zOf_r (b := 36) (w := 1) (by decide) (by decide))).st (zOf_r (b := 36) (w := 2) (by decide) (by decide))).st (zOf_r (b := 36) (w := 3) (by decide) (by decide))).st (zOf_r (b := 36) (w := 4) (by decide) (by decide))).st (zOf_r (b := 36) (w := 5) (by decide) (by decide))).st (zOf_r (b := 36) (w := 6) (by decide) (by decide))).st zOf_b) ?_ ?_ ?_ ?_ ?_ ?_ ?_
       all_goals simp [zx_st])
  · intro c1
    refine And.intro (by first | exact Or.inl rfl | exact Or.inr rfl | omega) ?_
    first
    | exact h0 (by omega)
    | (refine h1 (by omega) _ (((((((zF.rf.st (zOf_r (b := 36) (w := 1) (by decide) (by decide))).st (zOf_r (b := 36) (w := 2) (by decide) (by decide))).st (zOf_r (b := 36) (w := 3) (by decide) (by decide))).st (zOf_r (b := 36) (w := 4) (by decide) (by decide))).st (zOf_r (b := 36) (w := 5) (by decide) (by decide))).st (zOf_r (b := 36) (w := 6) (by decide) (by decide))).st zOf_b) ?_ ?_ ?_ ?_ ?_ ?_ ?_
       all_goals simp [zx_st])
/-- a web grows -/
theorem s_192 {b : Nat} (hb : zWb b) {h : zM} {n : Int} (hn : h b 7 = n) (hk : 0 ≤ n) {Q : zQ} (h1 : n < zWn b → ∀ h2, zF (zOf b n) h h2 → h2 b 7 = n + 1 → h2 (b + 1) n = h b 8 → h2 (b + 2) n = 0 → h2 (b + 3) n = 2 → h2 (b + 4) n = -4 → h2 (b + 5) n = -4 → h2 (b + 6) n = -4 → Q (some (.inl 1)) h2) (h0 : ¬ n < zWn b → Q (some (.inl 0)) h) : zR 192 [.inr (.inr b)] h Q := by
  rcases hb with rfl | rfl | rfl | rfl | rfl
  · exact s_192_4 hn hk h1 h0
  · exact s_192_12 hn hk h1 h0
  · exact s_192_20 hn hk h1 h0
  · exact s_192_28 hn hk h1 h0
  · exact s_192_36 hn hk h1 h0
set_option maxHeartbeats 4000000 in
set_option maxRecDepth 100000 in
/-- Points.asKnown -/
theorem s_157 {h : zM} {u : Nat} (hu : u < 64) (hd : h 53 1 = (u : Int)) {f : Int → Int} (hf : ∀ v, 0 ≤ v → v < 6 → h 58 v = f v) {o : Int} (ho : -1000 ≤ o ∧ o < 106) {Q : zQ} (hq : Q (some (.inl (zlo u f o))) h) : zR 157 [.inr (.inr 52), .inl o] h Q := by
  refine zx_met0 zk_157 (Or.inr ⟨_, _, rfl, rfl⟩) (Nat.le_of_ble_eq_true rfl) 1000 (fun hok hM => ?_)
  refine s_44 (by omega) (fun a1 => ?_) (fun a1 => ?_)
  · constructor
    · intro c1
      first
      | (exfalso; omega)
      | (rw [zlo, if_neg (by omega)] at hq; exact hq)
      | (rw [zlo, if_neg (fun q => b1 (hz.mpr q.2))] at hq; exact hq)
      | (rw [zlo, if_pos ⟨by omega, hz.mp b1⟩, ← hf _ (by omega) (by omega)] at hq; exact hq)
    · intro c1
      have hz := zB_bit u hu (o - 100).toNat (by omega)
      rw [Int.toNat_of_nonneg (by omega), ← hd] at hz
      refine s_43 (fun b1 => ?_) (fun b1 => ?_)
      · refine And.intro (fun c => absurd c (by decide)) (fun _ => ?_)
        first
        | (exfalso; omega)
        | (rw [zlo, if_neg (by omega)] at hq; exact hq)
        | (rw [zlo, if_neg (fun q => b1 (hz.mpr q.2))] at hq; exact hq)
        | (rw [zlo, if_pos ⟨by omega, hz.mp b1⟩, ← hf _ (by omega) (by omega)] at hq; exact hq)
      · refine And.intro (fun _ => ?_) (fun c => absurd (by decide) c)
        refine And.intro (by show 0 ≤ _ ∧ _ < (6 : Int); omega) ?_
        first
        | (exfalso; omega)
        | (rw [zlo, if_neg (by omega)] at hq; exact hq)
        | (rw [zlo, if_neg (fun q => b1 (hz.mpr q.2))] at hq; exact hq)
        | (rw [zlo, if_pos ⟨by omega, hz.mp b1⟩, ← hf _ (by omega) (by omega)] at hq; exact hq)
  · refine And.intro (fun _ => ?_) (fun c => absurd (by decide) c)
    first
    | (exfalso; omega)
    | (rw [zlo, if_neg (by omega)] at hq; exact hq)
    | (rw [zlo, if_neg (fun q => b1 (hz.mpr q.2))] at hq; exact hq)
    | (rw [zlo, if_pos ⟨by omega, hz.mp b1⟩, ← hf _ (by omega) (by omega)] at hq; exact hq)
theorem zB_andn : ∀ a : Nat, a < 64 → ∀ u : Nat, u < 64 → zx_and (a : Int) (zx_xor (u : Int) (-1)) = ((a &&& (63 - u) : Nat) : Int) ∧ a &&& (63 - u) < 64 := by decide +kernel
theorem zB_63 : ∀ u : Nat, u < 64 → ∀ v : Nat, v < 6 → (Nat.testBit (63 - u) v = !Nat.testBit u v) ∧ Nat.testBit 63 v = true := by decide +kernel
/-- the environment of the class's points -/
def zEc (h : zM) (G : zG) : Prop := zPc h 12 44 G ∧ h 53 1 = (zUG G : Int) ∧ ∀ c : Nat, c < 8 → h 54 (c : Int) = (zAG G c : Int)
set_option maxHeartbeats 4000000 in
set_option maxRecDepth 100000 in
/-- Points.seek -/
theorem s_153 {h : zM} {G : zG} (he : zEc h G) (hw : zWf G) {b : Nat} (hb : b < G.1) {F : Int → Int} (hF0 : ∀ v, 0 ≤ v → v < 6 → F v = ztd G (h 58) b v) {Q : zQ} (hq : ∀ h2, zF (fun r _ => Nat.beq r 59) h h2 → (∀ v, 0 ≤ v → v < 6 → h2 59 v = F v) → Q none h2) : zR 153 [.inr (.inr 52), .inl (b : Int), .inl G.2.2.2.2.2] h Q := by
  have hu := zUG_b hw
  have ha := zAG_b hw b
  have h8 := hw.1
  have hd := he.2.1
  have h54 := he.2.2 b (by omega)
  have hws := hw.2.2.2.2.2
  have hn63 := zB_andn 63 (by omega) _ hu
  have hna := zB_andn _ ha _ hu
  obtain ⟨y, hy, hyb⟩ : ∃ y : Nat, y < 64 ∧ y = (if G.2.2.2.2.2 = 0 then 63 else zAG G b) &&& (63 - zUG G) := by
    split
    · exact ⟨_, hn63.2, rfl⟩
    · exact ⟨_, hna.2, rfl⟩
  have hbit : ∀ v : Nat, v < 6 → (zx_and (zx_shr (y : Int) (v : Int)) 1 = 0 ↔ ¬ (Nat.testBit (zUG G) v = false ∧ (G.2.2.2.2.2 = 0 ∨ Nat.testBit (zAG G b) v = true))) := by
    intro v hv
    rw [zB_bit y hy v hv, hyb, Nat.testBit_and, (zB_63 _ hu v hv).1]
    split
    · rename_i q
      rw [(zB_63 _ hu v hv).2]
      simp [q]
    · rename_i q
      cases Nat.testBit (zUG G) v <;> cases Nat.testBit (zAG G b) v <;> simp [q]
  refine zx_met zk_153 (Or.inr ⟨_, _, rfl, rfl⟩) (Nat.le_of_ble_eq_true rfl) (fun _ => false) 1000 (fun m j L S h2 => j = 19 ∧ S = [] ∧ ∃ k7 : Nat, L = [some (.inr (.inr 52)), some (.inl (b : Int)), some (.inl G.2.2.2.2.2), some (.inl (y : Int)), some (.inl (k7 : Int))] ∧ k7 ≤ 6 ∧ m = 6 - k7 ∧ zF (fun r _ => Nat.beq r 59) h h2 ∧ ∀ v, 0 ≤ v → v < (k7 : Int) → h2 59 v = F v) (fun hok hM => ?_) (fun hok hM => ?_)
  · constructor
    · intro c1
      refine s_42 ?_
      refine ⟨6, rfl, rfl, 0, ?_, by omega, rfl, zF.rf, fun v h0 h1 => by omega⟩
      first
      | (rw [hd, show (63 : Int) = ((63 : Nat) : Int) from rfl, hn63.1]
         rw [if_pos (by assumption)] at hyb
         rw [hyb]
         rfl)
      | (rw [h54, hd, hna.1]
         rw [if_neg (by assumption)] at hyb
         rw [hyb]
         rfl)
    · intro c1
      refine s_137 (fun a1 => ?_) (fun a1 => absurd (by omega) a1)
      refine ⟨6, rfl, rfl, 0, ?_, by omega, rfl, zF.rf, fun v h0 h1 => by omega⟩
      first
      | (rw [hd, show (63 : Int) = ((63 : Nat) : Int) from rfl, hn63.1]
         rw [if_pos (by assumption)] at hyb
         rw [hyb]
         rfl)
      | (rw [h54, hd, hna.1]
         rw [if_neg (by assumption)] at hyb
         rw [hyb]
         rfl)
  · rintro m j L S h2 hM2 ⟨rfl, rfl, k7, rfl, hk, hm, hF, hv⟩
    constructor
    · intro c2
      have hbk := hbit k7 (by omega)
      have hfk := hF0 (k7 : Int) (by omega) (by omega)
      unfold ztd at hfk
      rw [Int.toNat_natCast] at hfk
      refine s_43 (fun b1 => ?_) (fun b1 => ?_)
      · refine And.intro (fun c => absurd c (by decide)) (fun _ => ?_)
        refine And.intro (by show 0 ≤ _ ∧ _ < (6 : Int); omega) ?_
        refine And.intro (by show 0 ≤ _ ∧ _ < (6 : Int); omega) ?_
        refine And.intro (by omega) ?_
        refine ⟨6 - (k7 + 1), by omega, rfl, rfl, k7 + 1, rfl, by omega, rfl, hF.st rfl, zfill hv ?_⟩
        rw [hfk]
        first
        | (rw [if_neg (hbk.mp b1)])
        | (rw [if_pos (Classical.not_not.mp (fun q => b1 (hbk.mpr q)))]; exact hF _ _ rfl)
      · refine And.intro (fun _ => ?_) (fun c => absurd (by decide) c)
        refine And.intro (by show 0 ≤ _ ∧ _ < (6 : Int); omega) ?_
        refine And.intro (by omega) ?_
        refine ⟨6 - (k7 + 1), by omega, rfl, rfl, k7 + 1, rfl, by omega, rfl, hF.st rfl, zfill hv ?_⟩
        rw [hfk]
        first
        | (rw [if_neg (hbk.mp b1)])
        | (rw [if_pos (Classical.not_not.mp (fun q => b1 (hbk.mpr q)))]; exact hF _ _ rfl)
    · intro c2
      have k6 : k7 = 6 := by omega
      subst k6
      exact hq _ hF hv
set_option maxHeartbeats 4000000 in
set_option maxRecDepth 100000 in
/-- Points.findAlike -/
theorem s_154 {h : zM} {P : zPS} (hn : h 36 7 = (P.1 : Int)) (h40 : P.1 ≤ 40) (hb : ∀ j : Nat, j < P.1 → h 55 (j : Int) = (P.2.1 j : Int) ∧ ∀ v, 0 ≤ v → v < 6 → h 57 ((j : Int) * 6 + v) = P.2.2.1 j v) {F : Int → Int} (hs : ∀ v, 0 ≤ v → v < 6 → h 59 v = F v) {b : Nat} {Q : zQ} (h1 : ∀ k : Nat, k < P.1 → (∀ j, j < k → zlk P b F j = false) → zlk P b F k = true → Q (some (.inl (k : Int))) h) (h0 : (∀ j, j < P.1 → zlk P b F j = false) → Q (some (.inl (-4))) h) : zR 154 [.inr (.inr 52), .inl (b : Int)] h Q := by
  refine zx_met zk_154 (Or.inr ⟨_, _, rfl, rfl⟩) (Nat.le_of_ble_eq_true rfl) (fun _ => false) 1000 (fun m j L S h2 => (j = 2 ∧ S = [] ∧ h2 = h ∧ ∃ (k7 : Nat) (q3 q4 : Option zV), L = [some (.inr (.inr 52)), some (.inl (b : Int)), some (.inl (k7 : Int)), q3, q4] ∧ k7 ≤ P.1 ∧ m = (40 - k7) * 10 + 8 ∧ ∀ j, j < k7 → zlk P b F j = false) ∨
    (j = 19 ∧ S = [] ∧ h2 = h ∧ ∃ (k7 i7 : Nat) (a7 : Int), L = [some (.inr (.inr 52)), some (.inl (b : Int)), some (.inl (k7 : Int)), some (.inl a7), some (.inl (i7 : Int))] ∧ k7 < P.1 ∧ i7 ≤ 6 ∧ m = (40 - k7) * 10 + 6 - i7 ∧ (∀ j, j < k7 → zlk P b F j = false) ∧ (a7 = 1 ∧ P.2.1 k7 = b ∧ (∀ v, 0 ≤ v → v < (i7 : Int) → P.2.2.1 k7 v = F v) ∨ a7 = 0 ∧ zlk P b F k7 = false))) (fun hok hM => ?_) (fun hok hM => ?_)
  · exact ⟨_, Or.inl ⟨rfl, rfl, rfl, 0, _, _, rfl, by omega, rfl, fun j hj => by omega⟩⟩
  · rintro n0 i0 L S h2 hM2 (hI | hI)
    · obtain ⟨rfl, rfl, rfl, k7, q3, q4, rfl, hk, hm, hno⟩ := hI
      constructor
      · intro c1
        refine And.intro (by first | (show 0 ≤ _ ∧ _ < (40 : Int); omega) | (show 0 ≤ _ ∧ _ < (240 : Int); omega) | (show 0 ≤ _ ∧ _ < (6 : Int); omega)) ?_
        constructor
        · intro c2
          first
          | (refine ⟨(40 - k7) * 10 + 6 - 0, by omega, Or.inr ⟨rfl, rfl, rfl, k7, 0, _, rfl, by omega, by omega, rfl, hno, ?_⟩⟩
             have e55 := (hb k7 (by omega)).1
             first
             | (left; exact ⟨rfl, by omega, fun v h0 h1 => by omega⟩)
             | (right
                refine ⟨rfl, ?_⟩
                cases ez : zlk P b F k7
                · rfl
                · have := (zlk_iff.mp ez).1
                  omega))
          | (refine ⟨(40 - k7) * 10 + 6 - (i7 + 1), by omega, Or.inr ⟨rfl, rfl, rfl, k7, i7 + 1, _, rfl, by omega, by omega, rfl, hno, ?_⟩⟩
             have e57 := (hb k7 (by omega)).2 (i7 : Int) (by omega) (by omega)
             have e59 := hs (i7 : Int) (by omega) (by omega)
             have ha := ha.resolve_right (fun q => by have := q.1; omega)
             first
             | (left
                refine ⟨rfl, ha.2.1, fun v h0 h1 => ?_⟩
                by_cases e : v = (i7 : Int)
                · rw [e]; omega
                · exact ha.2.2 v h0 (by omega))
             | (right
                refine ⟨rfl, ?_⟩
                cases ez : zlk P b F k7
                · rfl
                · have := (zlk_iff.mp ez).2 (i7 : Int) (by omega) (by omega)
                  omega))
        · intro c2
          first
          | (refine ⟨(40 - k7) * 10 + 6 - 0, by omega, Or.inr ⟨rfl, rfl, rfl, k7, 0, _, rfl, by omega, by omega, rfl, hno, ?_⟩⟩
             have e55 := (hb k7 (by omega)).1
             first
             | (left; exact ⟨rfl, by omega, fun v h0 h1 => by omega⟩)
             | (right
                refine ⟨rfl, ?_⟩
                cases ez : zlk P b F k7
                · rfl
                · have := (zlk_iff.mp ez).1
                  omega))
          | (refine ⟨(40 - k7) * 10 + 6 - (i7 + 1), by omega, Or.inr ⟨rfl, rfl, rfl, k7, i7 + 1, _, rfl, by omega, by omega, rfl, hno, ?_⟩⟩
             have e57 := (hb k7 (by omega)).2 (i7 : Int) (by omega) (by omega)
             have e59 := hs (i7 : Int) (by omega) (by omega)
             have ha := ha.resolve_right (fun q => by have := q.1; omega)
             first
             | (left
                refine ⟨rfl, ha.2.1, fun v h0 h1 => ?_⟩
                by_cases e : v = (i7 : Int)
                · rw [e]; omega
                · exact ha.2.2 v h0 (by omega))
             | (right
                refine ⟨rfl, ?_⟩
                cases ez : zlk P b F k7
                · rfl
                · have := (zlk_iff.mp ez).2 (i7 : Int) (by omega) (by omega)
                  omega))
      · intro c1
        first
        | (have ha := ha.resolve_right (fun q => by have := q.1; omega)
           have hi6 : i7 = 6 := by omega
           subst hi6
           exact h1 k7 hk hno (zlk_iff.mpr ⟨ha.2.1, ha.2.2⟩))
        | (exact h0 (fun j hj => hno j (by omega)))
    · obtain ⟨rfl, rfl, rfl, k7, i7, a7, rfl, hk, hi, hm, hno, ha⟩ := hI
      have ha01 : a7 = 1 ∨ a7 = 0 := ha.imp And.left And.left
      constructor
      · intro c3
        constructor
        · intro c4
          constructor
          · intro c5
            refine And.intro (by omega) ?_
            have hz : zlk P b F k7 = false := by
              rcases ha with q9 | q9
              · have := q9.1
                omega
              · exact q9.2
            refine ⟨(40 - (k7 + 1)) * 10 + 8, by omega, Or.inl ⟨rfl, rfl, rfl, k7 + 1, _, _, rfl, by omega, rfl, fun j hj => ?_⟩⟩
            by_cases e : j = k7
            · rw [e]; exact hz
            · exact hno j (by omega)
          · intro c5
            first
            | (have ha := ha.resolve_right (fun q => by have := q.1; omega)
               have hi6 : i7 = 6 := by omega
               subst hi6
               exact h1 k7 hk hno (zlk_iff.mpr ⟨ha.2.1, ha.2.2⟩))
            | (exact h0 (fun j hj => hno j (by omega)))
        · intro c4
          refine And.intro (by omega) ?_
          refine And.intro (by omega) ?_
          refine And.intro (by first | (show 0 ≤ _ ∧ _ < (40 : Int); omega) | (show 0 ≤ _ ∧ _ < (240 : Int); omega) | (show 0 ≤ _ ∧ _ < (6 : Int); omega)) ?_
          refine And.intro (by first | (show 0 ≤ _ ∧ _ < (40 : Int); omega) | (show 0 ≤ _ ∧ _ < (240 : Int); omega) | (show 0 ≤ _ ∧ _ < (6 : Int); omega)) ?_
          constructor
          · intro c6
            refine And.intro (by omega) ?_
            first
            | (refine ⟨(40 - k7) * 10 + 6 - 0, by omega, Or.inr ⟨rfl, rfl, rfl, k7, 0, _, rfl, by omega, by omega, rfl, hno, ?_⟩⟩
               have e55 := (hb k7 (by omega)).1
               first
               | (left; exact ⟨rfl, by omega, fun v h0 h1 => by omega⟩)
               | (right
                  refine ⟨rfl, ?_⟩
                  cases ez : zlk P b F k7
                  · rfl
                  · have := (zlk_iff.mp ez).1
                    omega))
            | (refine ⟨(40 - k7) * 10 + 6 - (i7 + 1), by omega, Or.inr ⟨rfl, rfl, rfl, k7, i7 + 1, _, rfl, by omega, by omega, rfl, hno, ?_⟩⟩
               have e57 := (hb k7 (by omega)).2 (i7 : Int) (by omega) (by omega)
               have e59 := hs (i7 : Int) (by omega) (by omega)
               have ha := ha.resolve_right (fun q => by have := q.1; omega)
               first
               | (left
                  refine ⟨rfl, ha.2.1, fun v h0 h1 => ?_⟩
                  by_cases e : v = (i7 : Int)
                  · rw [e]; omega
                  · exact ha.2.2 v h0 (by omega))
               | (right
                  refine ⟨rfl, ?_⟩
                  cases ez : zlk P b F k7
                  · rfl
                  · have := (zlk_iff.mp ez).2 (i7 : Int) (by omega) (by omega)
                    omega))
          · intro c6
            refine And.intro (by omega) ?_
            first
            | (refine ⟨(40 - k7) * 10 + 6 - 0, by omega, Or.inr ⟨rfl, rfl, rfl, k7, 0, _, rfl, by omega, by omega, rfl, hno, ?_⟩⟩
               have e55 := (hb k7 (by omega)).1
               first
               | (left; exact ⟨rfl, by omega, fun v h0 h1 => by omega⟩)
               | (right
                  refine ⟨rfl, ?_⟩
                  cases ez : zlk P b F k7
                  · rfl
                  · have := (zlk_iff.mp ez).1
                    omega))
            | (refine ⟨(40 - k7) * 10 + 6 - (i7 + 1), by omega, Or.inr ⟨rfl, rfl, rfl, k7, i7 + 1, _, rfl, by omega, by omega, rfl, hno, ?_⟩⟩
               have e57 := (hb k7 (by omega)).2 (i7 : Int) (by omega) (by omega)
               have e59 := hs (i7 : Int) (by omega) (by omega)
               have ha := ha.resolve_right (fun q => by have := q.1; omega)
               first
               | (left
                  refine ⟨rfl, ha.2.1, fun v h0 h1 => ?_⟩
                  by_cases e : v = (i7 : Int)
                  · rw [e]; omega
                  · exact ha.2.2 v h0 (by omega))
               | (right
                  refine ⟨rfl, ?_⟩
                  cases ez : zlk P b F k7
                  · rfl
                  · have := (zlk_iff.mp ez).2 (i7 : Int) (by omega) (by omega)
                    omega))
      · intro c3
        constructor
        · intro c7
          refine And.intro (by omega) ?_
          have hz : zlk P b F k7 = false := by
            rcases ha with q9 | q9
            · have := q9.1
              omega
            · exact q9.2
          refine ⟨(40 - (k7 + 1)) * 10 + 8, by omega, Or.inl ⟨rfl, rfl, rfl, k7 + 1, _, _, rfl, by omega, rfl, fun j hj => ?_⟩⟩
          by_cases e : j = k7
          · rw [e]; exact hz
          · exact hno j (by omega)
        · intro c7
          first
          | (have ha := ha.resolve_right (fun q => by have := q.1; omega)
             have hi6 : i7 = 6 := by omega
             subst hi6
             exact h1 k7 hk hno (zlk_iff.mpr ⟨ha.2.1, ha.2.2⟩))
          | (exact h0 (fun j hj => hno j (by omega)))
