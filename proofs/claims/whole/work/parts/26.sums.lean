/-! CONTRACTS: sheets, sums: class and reference -/
theorem zsb_Sh {k : Int} (hk : 0 ≤ k ∧ k < 4) : zSh (zsb k) := by
  unfold zSh zsb
  omega
theorem z_b8 (v : Int) : zx_shr (zx_shl v 24) 24 = zx_b v := by
  unfold zx_shr zx_shl zx_b
  rw [show Int32.ofInt 24 &&& 31 = 24 from by decide, Int32.ofInt_toInt]
  refine congrArg Int32.toInt ?_
  generalize Int32.ofInt v = x
  refine Int32.toBitVec_inj.mp ?_
  show BitVec.sshiftRight (x.toBitVec <<< 24) 24 = (x.toBitVec.signExtend 8).signExtend 32
  generalize x.toBitVec = b
  apply BitVec.eq_of_getLsbD_eq
  intro i hi
  simp [BitVec.getLsbD_sshiftRight, BitVec.getLsbD_shiftLeft, BitVec.getLsbD_signExtend, BitVec.msb_eq_getLsbD_last]
  by_cases h8 : i < 8
  · have a1 : ¬ 32 ≤ i := by omega
    have a2 : 24 + i < 32 := by omega
    have a3 : ¬ 24 + i < 24 := by omega
    simp [h8, hi, a1, a2, a3]
  · have a2 : ¬ 24 + i < 32 := by omega
    simp [h8, hi, a2, BitVec.getElem_signExtend]
theorem z_s16 (v : Int) : zx_shr (zx_shl v 16) 16 = zx_s v := by
  unfold zx_shr zx_shl zx_s
  rw [show Int32.ofInt 16 &&& 31 = 16 from by decide, Int32.ofInt_toInt]
  refine congrArg Int32.toInt ?_
  generalize Int32.ofInt v = x
  refine Int32.toBitVec_inj.mp ?_
  show BitVec.sshiftRight (x.toBitVec <<< 16) 16 = (x.toBitVec.signExtend 16).signExtend 32
  generalize x.toBitVec = b
  apply BitVec.eq_of_getLsbD_eq
  intro i hi
  simp [BitVec.getLsbD_sshiftRight, BitVec.getLsbD_shiftLeft, BitVec.getLsbD_signExtend, BitVec.msb_eq_getLsbD_last]
  by_cases h8 : i < 16
  · have a1 : ¬ 32 ≤ i := by omega
    have a2 : 16 + i < 32 := by omega
    have a3 : ¬ 16 + i < 16 := by omega
    simp [h8, hi, a1, a2, a3]
  · have a2 : ¬ 16 + i < 32 := by omega
    simp [h8, hi, a2, BitVec.getElem_signExtend]
set_option maxHeartbeats 4000000 in
set_option maxRecDepth 100000 in
/-- C.sheet -/
theorem s_23 {k l n : Int} (hk : 0 ≤ k ∧ k < 4) {h : zM} {Q : zQ} (hb : ¬ ((0 ≤ l ∧ l < 3) ∧ n ≤ 40) → Q (some (.inl (-1))) h) (hn : (0 ≤ l ∧ l < 3) ∧ n < 0 → Q (some (.inl (-14))) h) (h1 : (0 ≤ l ∧ l < 3) ∧ 0 ≤ n ∧ n ≤ 40 → ∀ h2, zF (fun r _ => Nat.beq r (zsb k) || Nat.beq r (zsb k + 1)) h h2 → h2 (zsb k) 1 = l → h2 (zsb k) 2 = n → (∀ i, 0 ≤ i → i < 40 → h2 (zsb k + 1) i = 0) → Q (some (.inl 1)) h2) : zR 23 [.inr (.inr 0), .inl k, .inl l, .inl n] h Q := by
  have l72 : zx_ln 72 = (4 : Int) := rfl
  rcases (show k = 0 ∨ k = 1 ∨ k = 2 ∨ k = 3 by omega) with rfl | rfl | rfl | rfl
  all_goals
    refine zx_met0 zk_23 (Or.inr ⟨_, _, rfl, rfl⟩) (Nat.le_of_ble_eq_true rfl) 1000 (fun hok hM => ?_)
    refine s_40 (fun cv => ?_) (fun cv => absurd (by omega) cv)
    refine And.intro (fun c => absurd c (by decide)) (fun _ => ?_)
    refine s_41 (fun cl => ?_) (fun cl => ?_)
    · refine And.intro (fun c => absurd c (by decide)) (fun _ => ?_)
      constructor
      · intro c1
        first | exact hb (by omega) | exact hn (by omega) | exact h1 (by omega) h2 e1 e2 e3 e4
      · intro c1
        constructor
        · intro c2
          first | exact hb (by omega) | exact hn (by omega) | exact h1 (by omega) h2 e1 e2 e3 e4
        · intro c2
          refine And.intro (by omega) ?_
          refine s_184 (by first | exact Or.inl rfl | exact Or.inr (Or.inl rfl) | exact Or.inr (Or.inr (Or.inl rfl)) | exact Or.inr (Or.inr (Or.inr rfl))) (by omega) (fun h2 e1 e2 e3 e4 => ?_)
          first | exact hb (by omega) | exact hn (by omega) | exact h1 (by omega) h2 e1 e2 e3 e4
    · refine And.intro (fun _ => ?_) (fun c => absurd (by decide) c)
      first | exact hb (by omega) | exact hn (by omega) | exact h1 (by omega) h2 e1 e2 e3 e4
set_option maxHeartbeats 4000000 in
set_option maxRecDepth 100000 in
/-- C.sheet -/
theorem s_23_b {k l n : Int} (hk : ¬ (0 ≤ k ∧ k < 4)) {h : zM} {Q : zQ} (hq : Q (some (.inl (-1))) h) : zR 23 [.inr (.inr 0), .inl k, .inl l, .inl n] h Q := by
  refine zx_met0 zk_23 (Or.inr ⟨_, _, rfl, rfl⟩) (Nat.le_of_ble_eq_true rfl) 1000 (fun hok hM => ?_)
  refine s_40 (fun cv => absurd cv hk) (fun cv => ?_)
  refine And.intro (fun _ => ?_) (fun c => absurd (by decide) c)
  exact hq
set_option maxHeartbeats 4000000 in
set_option maxRecDepth 100000 in
/-- M.sheet -/
theorem s_126 {k l n : Int} {h : zM} {Q : zQ} (hb : ¬ ((0 ≤ k ∧ k < 4) ∧ (0 ≤ l ∧ l < 3) ∧ n ≤ 40) → Q (some (.inl (-1))) h) (hn : (0 ≤ k ∧ k < 4) ∧ (0 ≤ l ∧ l < 3) ∧ n < 0 → Q (some (.inl (-14))) h) (h1 : (0 ≤ k ∧ k < 4) ∧ (0 ≤ l ∧ l < 3) ∧ 0 ≤ n ∧ n ≤ 40 → ∀ h2, zF (fun r _ => Nat.beq r 104 || Nat.beq r 105 || Nat.beq r 106) h h2 → h2 104 = zx_st h 104 k l 104 → h2 105 = zx_st h 105 k n 105 → (∀ i, 0 ≤ i → i < 40 → h2 106 (40 * k + i) = 0) → (∀ i, ¬ (40 * k ≤ i ∧ i < 40 * k + 40) → h2 106 i = h 106 i) → Q (some (.inl 1)) h2) : zR 126 [.inr (.inr 81), .inl k, .inl l, .inl n] h Q := by
  have l104 : zx_ln 104 = (4 : Int) := rfl
  have l105 : zx_ln 105 = (4 : Int) := rfl
  have l106 : zx_ln 106 = (160 : Int) := rfl
  refine zx_met zk_126 (Or.inr ⟨_, _, rfl, rfl⟩) (Nat.le_of_ble_eq_true rfl) (fun _ => false) 1000 (fun m i L S h2 => i = 33 ∧ S = [] ∧ ((0 ≤ k ∧ k < 4) ∧ (0 ≤ l ∧ l < 3) ∧ 0 ≤ n ∧ n ≤ 40) ∧ ∃ j : Nat, L = [some (.inr (.inr 81)), some (.inl k), some (.inl l), some (.inl n), some (.inl (j : Int))] ∧ j ≤ 40 ∧ m = 40 - j ∧ zF (fun r _ => Nat.beq r 104 || Nat.beq r 105 || Nat.beq r 106) h h2 ∧ h2 104 = zx_st h 104 k l 104 ∧ h2 105 = zx_st h 105 k n 105 ∧ (∀ i, 0 ≤ i → i < (j : Int) → h2 106 (40 * k + i) = 0) ∧ ∀ i, ¬ (40 * k ≤ i ∧ i < 40 * k + j) → h2 106 i = h 106 i) (fun hok hM => ?_) (fun hok hM => ?_)
  · refine s_50 (fun cv => ?_) (fun cv => ?_)
    · refine And.intro (fun c => absurd c (by decide)) (fun _ => ?_)
      refine s_50 (fun cv => ?_) (fun cv => ?_)
      · refine And.intro (fun c => absurd c (by decide)) (fun _ => ?_)
        constructor
        · intro c1
          exact hb (by omega)
        · intro c1
          constructor
          · intro c2
            exact hn (by omega)
          · intro c2
            refine And.intro (by omega) ?_
            refine And.intro (by omega) ?_
            refine ⟨40, rfl, rfl, by omega, 0, rfl, by omega, rfl, (zF.rf.st rfl).st rfl, ?_, ?_, fun i a b => by omega, fun i _ => rfl⟩
            · exact zst_row (by decide)
            · rfl
      · refine And.intro (fun _ => ?_) (fun c => absurd (by decide) c)
        exact hb (by omega)
    · refine And.intro (fun _ => ?_) (fun c => absurd (by decide) c)
      exact hb (by omega)
  · rintro m i L S h2 hM2 ⟨rfl, rfl, hc, j, rfl, hj, hm, hF, e1, e2, e3, e4⟩
    constructor
    · intro c3
      refine And.intro (by omega) ?_
      refine And.intro (by omega) ?_
      refine And.intro (by omega) ?_
      refine And.intro (by omega) ?_
      refine ⟨40 - (j + 1), by omega, rfl, rfl, hc, j + 1, rfl, by omega, rfl, hF.st rfl, ?_, ?_, fun i a b => ?_, fun i a => ?_⟩
      · rw [zst_row (by decide)]; exact e1
      · rw [zst_row (by decide)]; exact e2
      · by_cases hi : i = (j : Int)
        · rw [hi]; exact zst_eq _ _ _ _
        · rw [zst_ne (by omega)]; exact e3 i a (by omega)
      · rw [zst_ne (by omega)]; exact e4 i (by omega)
    · intro c3
      have hj2 : j = 40 := by omega
      subst hj2
      exact h1 hc h2 hF e1 e2 e3 e4
set_option maxHeartbeats 4000000 in
set_option maxRecDepth 100000 in
/-- C.lay -/
theorem s_24 {k i v : Int} (hk : 0 ≤ k ∧ k < 4) {h : zM} {Q : zQ} (hl : h (zsb k) 2 ≤ 40) (hn : h (zsb k) 1 = -4 → Q (some (.inl (-11))) h) (hi : ¬ h (zsb k) 1 = -4 → ¬ (0 ≤ i ∧ i < h (zsb k) 2) → Q (some (.inl (-12))) h) (h1 : ¬ h (zsb k) 1 = -4 → 0 ≤ i ∧ i < h (zsb k) 2 → Q (some (.inl 1)) (zx_st h (zsb k + 1) i (if h (zsb k) 1 = 0 then zx_b v else if h (zsb k) 1 = 1 then zx_s v else v))) : zR 24 [.inr (.inr 0), .inl k, .inl i, .inl v] h Q := by
  have l72 : zx_ln 72 = (4 : Int) := rfl
  rcases (show k = 0 ∨ k = 1 ∨ k = 2 ∨ k = 3 by omega) with rfl | rfl | rfl | rfl
  all_goals
    refine zx_met0 zk_24 (Or.inr ⟨_, _, rfl, rfl⟩) (Nat.le_of_ble_eq_true rfl) 1000 (fun hok hM => ?_)
    refine s_40 (fun cv => ?_) (fun cv => absurd (by omega) cv)
    refine And.intro (fun c => absurd c (by decide)) (fun _ => ?_)
    refine And.intro (by omega) ?_
    refine s_185 (by first | exact Or.inl rfl | exact Or.inr (Or.inl rfl) | exact Or.inr (Or.inr (Or.inl rfl)) | exact Or.inr (Or.inr (Or.inr rfl))) (fun d1 => ?_) (fun d1 d2 => ?_) (fun d1 d2 => ?_)
    · refine And.intro (fun c => absurd c (by decide)) (fun _ => ?_)
      refine And.intro (by omega) ?_
      first | exact hn d1 | exact hi d1 d2 | exact h1 d1 d2
    · refine And.intro (fun c => absurd c (by decide)) (fun _ => ?_)
      refine And.intro (by omega) ?_
      first | exact hn d1 | exact hi d1 d2 | exact h1 d1 d2
    · refine And.intro (fun _ => ?_) (fun c => absurd (by decide) c)
      refine And.intro (by omega) ?_
      refine s_188 (by first | exact Or.inl rfl | exact Or.inr (Or.inl rfl) | exact Or.inr (Or.inr (Or.inl rfl)) | exact Or.inr (Or.inr (Or.inr rfl))) hl (fun cw => ?_) (fun cw => absurd ⟨d1, d2⟩ cw)
      first | exact hn d1 | exact hi d1 d2 | exact h1 d1 d2
set_option maxHeartbeats 4000000 in
set_option maxRecDepth 100000 in
/-- C.lay -/
theorem s_24_b {k i v : Int} (hk : ¬ (0 ≤ k ∧ k < 4)) {h : zM} {Q : zQ} (hq : Q (some (.inl (-1))) h) : zR 24 [.inr (.inr 0), .inl k, .inl i, .inl v] h Q := by
  refine zx_met0 zk_24 (Or.inr ⟨_, _, rfl, rfl⟩) (Nat.le_of_ble_eq_true rfl) 1000 (fun hok hM => ?_)
  refine s_40 (fun cv => absurd cv hk) (fun cv => ?_)
  refine And.intro (fun _ => ?_) (fun c => absurd (by decide) c)
  exact hq
set_option maxHeartbeats 4000000 in
set_option maxRecDepth 100000 in
/-- M.lay -/
theorem s_127 {k i v : Int} {h : zM} {Q : zQ} (hl : ∀ k, 0 ≤ k → k < 4 → 0 ≤ h 105 k ∧ h 105 k ≤ 40) (hb : ¬ (0 ≤ k ∧ k < 4) → Q (some (.inl (-1))) h) (hn : 0 ≤ k ∧ k < 4 → h 104 k = -4 → Q (some (.inl (-11))) h) (hi : 0 ≤ k ∧ k < 4 → ¬ h 104 k = -4 → ¬ (0 ≤ i ∧ i < h 105 k) → Q (some (.inl (-12))) h) (h1 : 0 ≤ k ∧ k < 4 → ¬ h 104 k = -4 → 0 ≤ i ∧ i < h 105 k → Q (some (.inl 1)) (zx_st h 106 (40 * k + i) (if h 104 k = 0 then zx_shr (zx_shl v 24) 24 else if h 104 k = 1 then zx_shr (zx_shl v 16) 16 else v))) : zR 127 [.inr (.inr 81), .inl k, .inl i, .inl v] h Q := by
  have l104 : zx_ln 104 = (4 : Int) := rfl
  have l105 : zx_ln 105 = (4 : Int) := rfl
  have l106 : zx_ln 106 = (160 : Int) := rfl
  refine zx_met0 zk_127 (Or.inr ⟨_, _, rfl, rfl⟩) (Nat.le_of_ble_eq_true rfl) 1000 (fun hok hM => ?_)
  refine s_50 (fun cv => ?_) (fun cv => ?_)
  · refine And.intro (fun c => absurd c (by decide)) (fun _ => ?_)
    refine And.intro (by first | omega | (have := hl k (by omega) (by omega); omega)) ?_
    constructor
    · intro c1
      first | exact hb (by omega) | exact hn (by omega) (by omega) | exact hi (by omega) (by omega) (by omega) | (have hq := h1 (by omega) (by omega) (by omega); (first | (rw [if_pos (by omega)] at hq; exact hq) | (rw [if_neg (by omega), if_pos (by omega)] at hq; exact hq) | (rw [if_neg (by omega), if_neg (by omega)] at hq; exact hq)))
    · intro c1
      refine And.intro (by first | omega | (have := hl k (by omega) (by omega); omega)) ?_
      refine And.intro (by first | omega | (have := hl k (by omega) (by omega); omega)) ?_
      refine s_50 (fun cv => ?_) (fun cv => ?_)
      · refine And.intro (fun c => absurd c (by decide)) (fun _ => ?_)
        refine And.intro (by first | omega | (have := hl k (by omega) (by omega); omega)) ?_
        refine And.intro (by first | omega | (have := hl k (by omega) (by omega); omega)) ?_
        refine And.intro (by first | omega | (have := hl k (by omega) (by omega); omega)) ?_
        constructor
        · intro c2
          refine And.intro (by first | omega | (have := hl k (by omega) (by omega); omega)) ?_
          first | exact hb (by omega) | exact hn (by omega) (by omega) | exact hi (by omega) (by omega) (by omega) | (have hq := h1 (by omega) (by omega) (by omega); (first | (rw [if_pos (by omega)] at hq; exact hq) | (rw [if_neg (by omega), if_pos (by omega)] at hq; exact hq) | (rw [if_neg (by omega), if_neg (by omega)] at hq; exact hq)))
        · intro c2
          refine And.intro (by first | omega | (have := hl k (by omega) (by omega); omega)) ?_
          constructor
          · intro c3
            refine And.intro (by first | omega | (have := hl k (by omega) (by omega); omega)) ?_
            first | exact hb (by omega) | exact hn (by omega) (by omega) | exact hi (by omega) (by omega) (by omega) | (have hq := h1 (by omega) (by omega) (by omega); (first | (rw [if_pos (by omega)] at hq; exact hq) | (rw [if_neg (by omega), if_pos (by omega)] at hq; exact hq) | (rw [if_neg (by omega), if_neg (by omega)] at hq; exact hq)))
          · intro c3
            refine And.intro (by first | omega | (have := hl k (by omega) (by omega); omega)) ?_
            first | exact hb (by omega) | exact hn (by omega) (by omega) | exact hi (by omega) (by omega) (by omega) | (have hq := h1 (by omega) (by omega) (by omega); (first | (rw [if_pos (by omega)] at hq; exact hq) | (rw [if_neg (by omega), if_pos (by omega)] at hq; exact hq) | (rw [if_neg (by omega), if_neg (by omega)] at hq; exact hq)))
      · refine And.intro (fun _ => ?_) (fun c => absurd (by decide) c)
        first | exact hb (by omega) | exact hn (by omega) (by omega) | exact hi (by omega) (by omega) (by omega) | (have hq := h1 (by omega) (by omega) (by omega); (first | (rw [if_pos (by omega)] at hq; exact hq) | (rw [if_neg (by omega), if_pos (by omega)] at hq; exact hq) | (rw [if_neg (by omega), if_neg (by omega)] at hq; exact hq)))
  · refine And.intro (fun _ => ?_) (fun c => absurd (by decide) c)
    first | exact hb (by omega) | exact hn (by omega) (by omega) | exact hi (by omega) (by omega) (by omega) | (have hq := h1 (by omega) (by omega) (by omega); (first | (rw [if_pos (by omega)] at hq; exact hq) | (rw [if_neg (by omega), if_pos (by omega)] at hq; exact hq) | (rw [if_neg (by omega), if_neg (by omega)] at hq; exact hq)))
theorem zsum_b {g : Int → Int} {n : Nat} {c : Int} (hg : ∀ v : Nat, v < n → 0 ≤ g v ∧ g v ≤ c) : ∀ k, k ≤ n → 0 ≤ zit (fun v s => s + g v) k 0 ∧ zit (fun v s => s + g v) k 0 ≤ c * k := by
  intro k
  induction k with
  | zero => intro _; exact ⟨Int.le_refl _, by show (0 : Int) ≤ c * 0; omega⟩
  | succ k ih =>
    intro hk
    have a := ih (by omega)
    have b := hg k (by omega)
    show 0 ≤ zit (fun v s => s + g v) k 0 + g k ∧ zit (fun v s => s + g v) k 0 + g k ≤ c * ((k : Int) + 1)
    rw [Int.mul_add]
    omega
set_option maxHeartbeats 4000000 in
set_option maxRecDepth 100000 in
/-- C.startsSum -/
theorem s_32 {h : zM} {Q : zQ} (hs : ∀ v : Nat, v < 6 → 0 ≤ h 70 v ∧ h 70 v ≤ 99) (hq : Q (some (.inl (zit (fun v s => s + h 70 v) 6 0))) h) : zR 32 [.inr (.inr 0)] h Q := by
  have l70 : zx_ln 70 = (6 : Int) := rfl
  have hb := zsum_b hs
  refine zx_met zk_32 (Or.inr ⟨_, _, rfl, rfl⟩) (Nat.le_of_ble_eq_true rfl) (fun _ => false) 1000 (fun m i L S h2 => i = 4 ∧ S = [] ∧ h2 = h ∧ ∃ k : Nat, L = [some (.inr (.inr 0)), some (.inl (zit (fun v s => s + h 70 v) k 0)), some (.inl (k : Int))] ∧ k ≤ 6 ∧ m = 6 - k) (fun hok hM => ?_) (fun hok hM => ?_)
  · exact ⟨6, rfl, rfl, rfl, 0, rfl, by omega, rfl⟩
  · rintro m i L S h2 hM2 ⟨rfl, rfl, rfl, k, rfl, hk, hm⟩
    have hbk := hb k hk
    constructor
    · intro c1
      refine And.intro (by omega) ?_
      refine And.intro (by have := hs k (by omega); omega) ?_
      refine And.intro (by omega) ?_
      exact ⟨6 - (k + 1), by omega, rfl, rfl, rfl, k + 1, rfl, by omega, rfl⟩
    · intro c1
      have hk6 : k = 6 := by omega
      subst hk6
      exact hq
def zno (o : Int) : Int := if 0 ≤ o ∧ o < 100 then o else 0
theorem zno_r (o : Int) : 0 ≤ zno o ∧ zno o ≤ 99 := by
  unfold zno
  split <;> omega
set_option maxHeartbeats 4000000 in
set_option maxRecDepth 100000 in
/-- C.numbersSum -/
theorem s_33 {h : zM} {Q : zQ} (hk : zWk h 12) (hq : Q (some (.inl (zit (fun i s => s + (zno (h 19 ((i : Int) * 5 + 2)) + zno (h 19 ((i : Int) * 5 + 4)))) (h 12 8).toNat 0))) h) : zR 33 [.inr (.inr 0)] h Q := by
  obtain ⟨n, hn⟩ : ∃ n : Nat, (n : Int) = h 12 8 := ⟨(h 12 8).toNat, Int.toNat_of_nonneg hk.2.1⟩
  have hn24 : n ≤ 24 := by have := hk.2.2; simp [zWs] at this; omega
  have hb := zsum_b (g := fun i => zno (h 19 (i * 5 + 2)) + zno (h 19 (i * 5 + 4))) (n := 24) (c := 198) (fun v _ => by have a := zno_r (h 19 ((v : Int) * 5 + 2)); have b := zno_r (h 19 ((v : Int) * 5 + 4)); show 0 ≤ zno _ + zno _ ∧ zno _ + zno _ ≤ 198; omega)
  rw [← hn, Int.toNat_natCast] at hq
  refine zx_met zk_33 (Or.inr ⟨_, _, rfl, rfl⟩) (Nat.le_of_ble_eq_true rfl) (fun _ => false) 1000 (fun m i L S h2 => i = 4 ∧ S = [] ∧ h2 = h ∧ ∃ k : Nat, L = [some (.inr (.inr 0)), some (.inl (zit (fun i s => s + (zno (h 19 ((i : Int) * 5 + 2)) + zno (h 19 ((i : Int) * 5 + 4)))) k 0)), some (.inl (k : Int))] ∧ k ≤ n ∧ m = n - k) (fun hok hM => ?_) (fun hok hM => ?_)
  · exact ⟨n, rfl, rfl, rfl, 0, rfl, by omega, rfl⟩
  · rintro m i L S h2 hM2 ⟨rfl, rfl, rfl, k, rfl, hkn, hm⟩
    have hbk := hb k (by omega)
    have hbk : 0 ≤ (zit (fun i s => s + (zno (h2 19 ((i : Int) * 5 + 2)) + zno (h2 19 ((i : Int) * 5 + 4)))) k 0) ∧ (zit (fun i s => s + (zno (h2 19 ((i : Int) * 5 + 2)) + zno (h2 19 ((i : Int) * 5 + 4)))) k 0) ≤ 198 * (k : Int) := hbk
    have r2 := zno_r (h2 19 ((k : Int) * 5 + 2))
    have r4 := zno_r (h2 19 ((k : Int) * 5 + 4))
    generalize hz : (zit (fun i s => s + (zno (h2 19 ((i : Int) * 5 + 2)) + zno (h2 19 ((i : Int) * 5 + 4)))) k 0) = z at *
    constructor
    · intro c1
      refine s_199 (by unfold zWb; omega) hk (fun cv => ?_) (fun cv => absurd (by omega) cv)
      refine s_34 ?_
      refine And.intro (by show _ ≤ z + zno (h2 19 ((k : Int) * 5 + 2)) ∧ z + zno (h2 19 ((k : Int) * 5 + 2)) < _; omega) ?_
      refine s_199 (by unfold zWb; omega) hk (fun cv => ?_) (fun cv => absurd (by omega) cv)
      refine s_34 ?_
      refine And.intro (by show _ ≤ z + zno (h2 19 ((k : Int) * 5 + 2)) + zno (h2 19 ((k : Int) * 5 + 4)) ∧ z + zno (h2 19 ((k : Int) * 5 + 2)) + zno (h2 19 ((k : Int) * 5 + 4)) < _; omega) ?_
      refine And.intro (by omega) ?_
      refine ⟨n - (k + 1), by omega, rfl, rfl, rfl, k + 1, ?_, by omega, rfl⟩
      have e : (zit (fun i s => s + (zno (h2 19 ((i : Int) * 5 + 2)) + zno (h2 19 ((i : Int) * 5 + 4)))) (k + 1) 0) = z + zno (h2 19 ((k : Int) * 5 + 2)) + zno (h2 19 ((k : Int) * 5 + 4)) := by
        rw [zit, hz]
        omega
      rw [e]
      rfl
    · intro c1
      have hk6 : k = n := by omega
      subst hk6
      rw [hz] at hq
      exact hq
