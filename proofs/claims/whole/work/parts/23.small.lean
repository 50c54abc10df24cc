/-! CONTRACTS: the reference's small ones; sums -/
theorem zlc_lt (x y : Int) : zx_lcmp x y < 0 ↔ x < y := by
  unfold zx_lcmp
  (repeat' split) <;> omega
theorem zlc_gt (x y : Int) : 0 < zx_lcmp x y ↔ y < x := by
  unfold zx_lcmp
  (repeat' split) <;> omega
/-- bit v of u -/
def zbit (u v : Int) : Prop := ¬ zx_and (zx_shr u v) 1 = 0
theorem zand1 (x : Int) : zx_and x 1 = 0 ∨ zx_and x 1 = 1 := by
  unfold zx_and
  have e : (Int32.ofInt x &&& Int32.ofInt 1) = 0 ∨ (Int32.ofInt x &&& Int32.ofInt 1) = 1 := by
    generalize Int32.ofInt x = y
    have : ∀ b : BitVec 32, b &&& 1#32 = 0#32 ∨ b &&& 1#32 = 1#32 := by
      intro b
      by_cases hb : b.getLsbD 0 = true
      · right
        apply BitVec.eq_of_getLsbD_eq
        intro i hi
        rw [BitVec.getLsbD_and]
        by_cases h0 : i = 0
        · subst h0; rw [hb]; rfl
        · simp [h0]
      · left
        apply BitVec.eq_of_getLsbD_eq
        intro i hi
        rw [BitVec.getLsbD_and]
        by_cases h0 : i = 0
        · subst h0; rw [Bool.eq_false_iff.mpr hb]; rfl
        · simp [h0]
    rcases this y.toBitVec with h | h
    · left; exact Int32.toBitVec_inj.mp h
    · right; exact Int32.toBitVec_inj.mp h
  rcases e with e | e
  · left; rw [e]; decide
  · right; rw [e]; decide
theorem zbit1 {u v : Int} : zx_and (zx_shr u v) 1 = 1 ↔ zbit u v := by
  unfold zbit
  have := zand1 (zx_shr u v)
  omega
theorem zbit0 {u v : Int} : zx_and (zx_shr u v) 1 = 0 ↔ ¬ zbit u v := by
  unfold zbit
  omega
set_option maxHeartbeats 4000000 in
set_option maxRecDepth 100000 in
/-- M.in -/
theorem s_50 {v l u : Int} {h : zM} {Q : zQ} (h1 : l ≤ v ∧ v ≤ u → Q (some (.inl 1)) h) (h0 : ¬ (l ≤ v ∧ v ≤ u) → Q (some (.inl 0)) h) : zR 50 [.inr (.inl v), .inr (.inl l), .inr (.inl u)] h Q := by
  refine zx_met0 zk_50 (Or.inl rfl) (Nat.le_of_ble_eq_true rfl) 1000 (fun hok hM => ?_)
  constructor
  · intro c1
    refine And.intro (by first | exact Or.inl rfl | exact Or.inr rfl | omega) ?_
    simp only [zlc_lt, zlc_gt] at *
    first | exact h1 (by omega) | exact h0 (by omega)
  · intro c1
    constructor
    · intro c2
      refine And.intro (by first | exact Or.inl rfl | exact Or.inr rfl | omega) ?_
      simp only [zlc_lt, zlc_gt] at *
      first | exact h1 (by omega) | exact h0 (by omega)
    · intro c2
      refine And.intro (by first | exact Or.inl rfl | exact Or.inr rfl | omega) ?_
      simp only [zlc_lt, zlc_gt] at *
      first | exact h1 (by omega) | exact h0 (by omega)
set_option maxHeartbeats 4000000 in
set_option maxRecDepth 100000 in
/-- M.isVariable -/
theorem s_85 {v : Int} {h : zM} {Q : zQ}  (h1 : 0 ≤ v ∧ v < 6 → Q (some (.inl 1)) h) (h0 : ¬ (0 ≤ v ∧ v < 6) → Q (some (.inl 0)) h) : zR 85 [.inl v] h Q := by
  refine zx_met0 zk_85 (Or.inl rfl) (Nat.le_of_ble_eq_true rfl) 1000 (fun hok hM => ?_)
  refine s_50 (fun cv => ?_) (fun cv => ?_)
  · refine And.intro (by first | exact Or.inl rfl | exact Or.inr rfl | omega) ?_
    first | exact h1 (by omega) | exact h0 (by omega)
  · refine And.intro (by first | exact Or.inl rfl | exact Or.inr rfl | omega) ?_
    first | exact h1 (by omega) | exact h0 (by omega)
set_option maxHeartbeats 4000000 in
set_option maxRecDepth 100000 in
/-- M.isOperand -/
theorem s_121 {v : Int} {h : zM} {Q : zQ}  (h1 : 0 ≤ v ∧ v < 106 → Q (some (.inl 1)) h) (h0 : ¬ (0 ≤ v ∧ v < 106) → Q (some (.inl 0)) h) : zR 121 [.inl v] h Q := by
  refine zx_met0 zk_121 (Or.inl rfl) (Nat.le_of_ble_eq_true rfl) 1000 (fun hok hM => ?_)
  refine s_50 (fun cv => ?_) (fun cv => ?_)
  · refine And.intro (fun c => absurd c (by decide)) (fun _ => ?_)
    refine And.intro (by first | exact Or.inl rfl | exact Or.inr rfl | omega) ?_
    first | exact h1 (by omega) | exact h0 (by omega)
  · refine And.intro (fun _ => ?_) (fun c => absurd (by decide) c)
    refine s_50 (fun cv => ?_) (fun cv => ?_)
    · refine And.intro (fun c => absurd c (by decide)) (fun _ => ?_)
      refine And.intro (by first | exact Or.inl rfl | exact Or.inr rfl | omega) ?_
      first | exact h1 (by omega) | exact h0 (by omega)
    · refine And.intro (fun _ => ?_) (fun c => absurd (by decide) c)
      refine And.intro (by first | exact Or.inl rfl | exact Or.inr rfl | omega) ?_
      first | exact h1 (by omega) | exact h0 (by omega)
set_option maxHeartbeats 4000000 in
set_option maxRecDepth 100000 in
/-- M.isBlock -/
theorem s_83 {v : Int} {h : zM} {Q : zQ} (hb : 0 ≤ h 82 175 ∧ h 82 175 ≤ 8) (h1 : 0 ≤ v ∧ v < h 82 175 → Q (some (.inl 1)) h) (h0 : ¬ (0 ≤ v ∧ v < h 82 175) → Q (some (.inl 0)) h) : zR 83 [.inr (.inr 81), .inl v] h Q := by
  have l82 : zx_ln 82 = (708 : Int) := rfl
  refine zx_met0 zk_83 (Or.inr ⟨_, _, rfl, rfl⟩) (Nat.le_of_ble_eq_true rfl) 1000 (fun hok hM => ?_)
  refine And.intro (by omega) ?_
  refine And.intro (by omega) ?_
  refine s_50 (fun cv => ?_) (fun cv => ?_)
  · refine And.intro (by first | exact Or.inl rfl | exact Or.inr rfl | omega) ?_
    first | exact h1 (by omega) | exact h0 (by omega)
  · refine And.intro (by first | exact Or.inl rfl | exact Or.inr rfl | omega) ?_
    first | exact h1 (by omega) | exact h0 (by omega)
set_option maxHeartbeats 4000000 in
set_option maxRecDepth 100000 in
/-- M.isStep -/
theorem s_84 {v : Int} {h : zM} {Q : zQ} (hb : 0 ≤ h 82 176 ∧ h 82 176 ≤ 24) (h1 : 0 ≤ v ∧ v < h 82 176 → Q (some (.inl 1)) h) (h0 : ¬ (0 ≤ v ∧ v < h 82 176) → Q (some (.inl 0)) h) : zR 84 [.inr (.inr 81), .inl v] h Q := by
  have l82 : zx_ln 82 = (708 : Int) := rfl
  refine zx_met0 zk_84 (Or.inr ⟨_, _, rfl, rfl⟩) (Nat.le_of_ble_eq_true rfl) 1000 (fun hok hM => ?_)
  refine And.intro (by omega) ?_
  refine And.intro (by omega) ?_
  refine s_50 (fun cv => ?_) (fun cv => ?_)
  · refine And.intro (by first | exact Or.inl rfl | exact Or.inr rfl | omega) ?_
    first | exact h1 (by omega) | exact h0 (by omega)
  · refine And.intro (by first | exact Or.inl rfl | exact Or.inr rfl | omega) ?_
    first | exact h1 (by omega) | exact h0 (by omega)
set_option maxHeartbeats 4000000 in
set_option maxRecDepth 100000 in
/-- M.byteAt -/
theorem s_53 {k : Int} {h : zM} {Q : zQ} (hk : 0 ≤ k) (ht : h 81 2 ≤ 320) (h1 : k < h 81 2 → Q (some (.inl (h 83 k))) h) (h0 : ¬ k < h 81 2 → Q (some (.inl (-4))) h) : zR 53 [.inr (.inr 81), .inl k] h Q := by
  have l83 : zx_ln 83 = (320 : Int) := rfl
  refine zx_met0 zk_53 (Or.inr ⟨_, _, rfl, rfl⟩) (Nat.le_of_ble_eq_true rfl) 1000 (fun hok hM => ?_)
  constructor
  · intro c1
    refine And.intro (by omega) ?_
    first | exact h1 (by omega) | exact h0 (by omega)
  · intro c1
    first | exact h1 (by omega) | exact h0 (by omega)
set_option maxHeartbeats 4000000 in
set_option maxRecDepth 100000 in
/-- M.fails -/
theorem s_54 {c : Int} {h : zM} {Q : zQ} (h1 : h 81 4 = 0 → Q none (zx_st (zx_st h 81 4 c) 81 5 (h 81 7))) (h0 : ¬ h 81 4 = 0 → Q none h) : zR 54 [.inr (.inr 81), .inl c] h Q := by
  refine zx_met0 zk_54 (Or.inr ⟨_, _, rfl, rfl⟩) (Nat.le_of_ble_eq_true rfl) 1000 (fun hok hM => ?_)
  constructor
  · intro c1
    first | exact h1 (by assumption) | exact h0 (by assumption)
  · intro c1
    first | exact h1 (by assumption) | exact h0 (by assumption)
set_option maxHeartbeats 4000000 in
set_option maxRecDepth 100000 in
/-- M.fault -/
theorem s_66 {h : zM} {Q : zQ} (hq : Q (some (.inl (h 81 3))) h) : zR 66 [.inr (.inr 81)] h Q := by
  refine zx_met0 zk_66 (Or.inr ⟨_, _, rfl, rfl⟩) (Nat.le_of_ble_eq_true rfl) 1000 (fun hok hM => ?_)
  exact hq
set_option maxHeartbeats 4000000 in
set_option maxRecDepth 100000 in
/-- M.torn -/
theorem s_130 {h : zM} {Q : zQ} (hq : Q (some (.inl (h 81 45))) h) : zR 130 [.inr (.inr 81)] h Q := by
  refine zx_met0 zk_130 (Or.inr ⟨_, _, rfl, rfl⟩) (Nat.le_of_ble_eq_true rfl) 1000 (fun hok hM => ?_)
  exact hq
set_option maxHeartbeats 4000000 in
set_option maxRecDepth 100000 in
/-- C.fault -/
theorem s_3 {h : zM} {Q : zQ} (hq : Q (some (.inl (h 1 2))) h) : zR 3 [.inr (.inr 0)] h Q := by
  refine zx_met0 zk_3 (Or.inr ⟨_, _, rfl, rfl⟩) (Nat.le_of_ble_eq_true rfl) 1000 (fun hok hM => ?_)
  exact hq
set_option maxHeartbeats 4000000 in
set_option maxRecDepth 100000 in
/-- C.torn -/
theorem s_26 {h : zM} {Q : zQ} (hq : Q (some (.inl (h 0 13))) h) : zR 26 [.inr (.inr 0)] h Q := by
  refine zx_met0 zk_26 (Or.inr ⟨_, _, rfl, rfl⟩) (Nat.le_of_ble_eq_true rfl) 1000 (fun hok hM => ?_)
  exact hq
set_option maxHeartbeats 4000000 in
set_option maxRecDepth 100000 in
/-- M.bitOf -/
theorem s_70 {o : Int} {h : zM} {Q : zQ} (ho : -1000 ≤ o ∧ o ≤ 1000) (h1 : o < 100 → Q (some (.inl 0)) h) (h0 : ¬ (o < 100) → Q (some (.inl (zx_shl 1 (o - 100)))) h) : zR 70 [.inl o] h Q := by
  refine zx_met0 zk_70 (Or.inl rfl) (Nat.le_of_ble_eq_true rfl) 1000 (fun hok hM => ?_)
  constructor
  · intro c1
    first | exact h1 (by omega) | exact h0 (by omega)
  · intro c1
    refine And.intro (by omega) ?_
    first | exact h1 (by omega) | exact h0 (by omega)
set_option maxHeartbeats 4000000 in
set_option maxRecDepth 100000 in
/-- M.isUnknown -/
theorem s_68 {o : Int} {h : zM} {Q : zQ} (ho : -1000 ≤ o ∧ o ≤ 1000) (h1 : 100 ≤ o ∧ zbit (h 81 12) (o - 100) → Q (some (.inl 1)) h) (h0 : ¬ (100 ≤ o ∧ zbit (h 81 12) (o - 100)) → Q (some (.inl 0)) h) : zR 68 [.inr (.inr 81), .inl o] h Q := by
  refine zx_met0 zk_68 (Or.inr ⟨_, _, rfl, rfl⟩) (Nat.le_of_ble_eq_true rfl) 1000 (fun hok hM => ?_)
  constructor
  · intro c1
    refine And.intro (by first | exact Or.inl rfl | exact Or.inr rfl | omega) ?_
    first | exact h0 (by omega) | exact h1 ⟨by omega, zbit1.mp (by assumption)⟩ | exact h0 (fun z => by have := zbit1.mpr z.2; contradiction)
  · intro c1
    refine And.intro (by omega) ?_
    constructor
    · intro c2
      refine And.intro (by first | exact Or.inl rfl | exact Or.inr rfl | omega) ?_
      first | exact h0 (by omega) | exact h1 ⟨by omega, zbit1.mp (by assumption)⟩ | exact h0 (fun z => by have := zbit1.mpr z.2; contradiction)
    · intro c2
      refine And.intro (by first | exact Or.inl rfl | exact Or.inr rfl | omega) ?_
      first | exact h0 (by omega) | exact h1 ⟨by omega, zbit1.mp (by assumption)⟩ | exact h0 (fun z => by have := zbit1.mpr z.2; contradiction)
set_option maxHeartbeats 4000000 in
set_option maxRecDepth 100000 in
/-- M.numberIn -/
theorem s_76 {o : Int} {h : zM} {Q : zQ} (ho : 0 ≤ o ∧ o < 106) (h1 : o < 100 → Q (some (.inl o)) h) (h0 : ¬ o < 100 → Q (some (.inl (h 95 (o - 100)))) h) : zR 76 [.inr (.inr 81), .inl o] h Q := by
  have l95 : zx_ln 95 = (6 : Int) := rfl
  refine zx_met0 zk_76 (Or.inr ⟨_, _, rfl, rfl⟩) (Nat.le_of_ble_eq_true rfl) 1000 (fun hok hM => ?_)
  constructor
  · intro c1
    first | exact h1 (by omega) | exact h0 (by omega)
  · intro c1
    refine And.intro (by omega) ?_
    refine And.intro (by omega) ?_
    first | exact h1 (by omega) | exact h0 (by omega)
set_option maxHeartbeats 4000000 in
set_option maxRecDepth 100000 in
/-- M.valueIn -/
theorem s_108 {o : Int} {h : zM} {Q : zQ} (ho : 0 ≤ o ∧ o < 106) (h1 : o < 100 → Q (some (.inl o)) h) (h0 : ¬ o < 100 → Q (some (.inl (h 99 (o - 100)))) h) : zR 108 [.inr (.inr 81), .inl o] h Q := by
  have l99 : zx_ln 99 = (6 : Int) := rfl
  refine zx_met0 zk_108 (Or.inr ⟨_, _, rfl, rfl⟩) (Nat.le_of_ble_eq_true rfl) 1000 (fun hok hM => ?_)
  constructor
  · intro c1
    first | exact h1 (by omega) | exact h0 (by omega)
  · intro c1
    refine And.intro (by omega) ?_
    refine And.intro (by omega) ?_
    first | exact h1 (by omega) | exact h0 (by omega)
set_option maxHeartbeats 4000000 in
set_option maxRecDepth 100000 in
/-- M.leftOperand -/
theorem s_78 {o : Int} {h : zM} {Q : zQ} (ho : -1000 ≤ o ∧ o < 106) (h1 : ¬ (100 ≤ o ∧ ¬ zbit (h 81 12) (o - 100)) → Q (some (.inl o)) h) (h0 : 100 ≤ o ∧ ¬ zbit (h 81 12) (o - 100) → Q (some (.inl (h 95 (o - 100)))) h) : zR 78 [.inr (.inr 81), .inl o] h Q := by
  have l95 : zx_ln 95 = (6 : Int) := rfl
  refine zx_met0 zk_78 (Or.inr ⟨_, _, rfl, rfl⟩) (Nat.le_of_ble_eq_true rfl) 1000 (fun hok hM => ?_)
  constructor
  · intro c1
    first | exact h1 (by omega) | exact h1 (fun z => z.2 cv.2) | exact h0 ⟨by omega, fun z => cv ⟨by omega, z⟩⟩
  · intro c1
    refine s_68 (by omega) (fun cv => ?_) (fun cv => ?_)
    · refine And.intro (fun c => absurd c (by decide)) (fun _ => ?_)
      first | exact h1 (by omega) | exact h1 (fun z => z.2 cv.2) | exact h0 ⟨by omega, fun z => cv ⟨by omega, z⟩⟩
    · refine And.intro (fun _ => ?_) (fun c => absurd (by decide) c)
      refine And.intro (by omega) ?_
      refine And.intro (by omega) ?_
      first | exact h1 (by omega) | exact h1 (fun z => z.2 cv.2) | exact h0 ⟨by omega, fun z => cv ⟨by omega, z⟩⟩
set_option maxHeartbeats 4000000 in
set_option maxRecDepth 100000 in
/-- M.brings -/
theorem s_77 {op x y : Int} {h : zM} {Q : zQ} (hx : 0 ≤ x ∧ x ≤ 99) (hy : 0 ≤ y ∧ y ≤ 99) (hq : Q (some (.inl (zres op x y))) h) : zR 77 [.inl op, .inl x, .inl y] h Q := by
  refine zx_met0 zk_77 (Or.inl rfl) (Nat.le_of_ble_eq_true rfl) 1000 (fun hok hM => ?_)
  constructor
  · intro c1
    refine And.intro (by omega) ?_
    constructor
    · intro c2
      refine zQe ?_ hq
      unfold zres
      (repeat' split) <;> omega
    · intro c2
      refine And.intro (by omega) ?_
      refine zQe ?_ hq
      unfold zres
      (repeat' split) <;> omega
  · intro c1
    constructor
    · intro c3
      constructor
      · intro c4
        refine zQe ?_ hq
        unfold zres
        (repeat' split) <;> omega
      · intro c4
        refine And.intro (by omega) ?_
        refine zQe ?_ hq
        unfold zres
        (repeat' split) <;> omega
    · intro c3
      constructor
      · intro c5
        constructor
        · intro c6
          refine zQe ?_ hq
          unfold zres
          (repeat' split) <;> omega
        · intro c6
          refine zQe ?_ hq
          unfold zres
          (repeat' split) <;> omega
      · intro c5
        constructor
        · intro c7
          refine zQe ?_ hq
          unfold zres
          (repeat' split) <;> omega
        · intro c7
          refine zQe ?_ hq
          unfold zres
          (repeat' split) <;> omega
set_option maxHeartbeats 4000000 in
set_option maxRecDepth 100000 in
/-- M.numberOf -/
theorem s_131 {o : Int} {h : zM} {Q : zQ} (hq : Q (some (.inl (if 0 ≤ o ∧ o < 100 then o else 0))) h) : zR 131 [.inl o] h Q := by
  refine zx_met0 zk_131 (Or.inl rfl) (Nat.le_of_ble_eq_true rfl) 1000 (fun hok hM => ?_)
  refine s_50 (fun cv => ?_) (fun cv => ?_)
  · refine And.intro (fun c => absurd c (by decide)) (fun _ => ?_)
    refine zQe ?_ hq
    (repeat' split) <;> omega
  · refine And.intro (fun _ => ?_) (fun c => absurd (by decide) c)
    refine zQe ?_ hq
    (repeat' split) <;> omega
set_option maxHeartbeats 4000000 in
set_option maxRecDepth 100000 in
/-- M.toldAt -/
theorem s_74 {b v : Int} {h : zM} {Q : zQ} (hb : 0 ≤ b ∧ b < 8) (hv : 0 ≤ v ∧ v < 6) (h1 : ¬ zbit (h 81 12) v → (h 82 174 = 1 ∨ zbit (h 86 b) v) → Q (some (.inl (h 95 v))) h) (h0 : ¬ (¬ zbit (h 81 12) v ∧ (h 82 174 = 1 ∨ zbit (h 86 b) v)) → Q (some (.inl 0)) h) : zR 74 [.inr (.inr 81), .inl b, .inl v] h Q := by
  have l82 : zx_ln 82 = (708 : Int) := rfl
  have l86 : zx_ln 86 = (8 : Int) := rfl
  have l95 : zx_ln 95 = (6 : Int) := rfl
  refine zx_met0 zk_74 (Or.inr ⟨_, _, rfl, rfl⟩) (Nat.le_of_ble_eq_true rfl) 1000 (fun hok hM => ?_)
  constructor
  · intro c1
    refine And.intro (fun c => absurd c (by decide)) (fun _ => ?_)
    refine And.intro (by omega) ?_
    constructor
    · intro c2
      refine And.intro (fun c => absurd c (by decide)) (fun _ => ?_)
      refine And.intro (by omega) ?_
      simp only [zbit1, zbit0] at *
      first | exact h1 (by assumption) (Or.inl (by assumption)) | exact h1 (by assumption) (Or.inr (by assumption)) | exact h0 (fun z => absurd z.1 (by assumption)) | exact h0 (fun z => by rcases z.2 with z | z <;> contradiction)
    · intro c2
      refine And.intro (by omega) ?_
      constructor
      · intro c3
        refine And.intro (fun c => absurd c (by decide)) (fun _ => ?_)
        refine And.intro (by omega) ?_
        simp only [zbit1, zbit0] at *
        first | exact h1 (by assumption) (Or.inl (by assumption)) | exact h1 (by assumption) (Or.inr (by assumption)) | exact h0 (fun z => absurd z.1 (by assumption)) | exact h0 (fun z => by rcases z.2 with z | z <;> contradiction)
      · intro c3
        refine And.intro (fun _ => ?_) (fun c => absurd (by decide) c)
        simp only [zbit1, zbit0] at *
        first | exact h1 (by assumption) (Or.inl (by assumption)) | exact h1 (by assumption) (Or.inr (by assumption)) | exact h0 (fun z => absurd z.1 (by assumption)) | exact h0 (fun z => by rcases z.2 with z | z <;> contradiction)
  · intro c1
    refine And.intro (fun _ => ?_) (fun c => absurd (by decide) c)
    refine And.intro (fun _ => ?_) (fun c => absurd (by decide) c)
    simp only [zbit1, zbit0] at *
    first | exact h1 (by assumption) (Or.inl (by assumption)) | exact h1 (by assumption) (Or.inr (by assumption)) | exact h0 (fun z => absurd z.1 (by assumption)) | exact h0 (fun z => by rcases z.2 with z | z <;> contradiction)
set_option maxHeartbeats 4000000 in
set_option maxRecDepth 100000 in
/-- M.becomesBegin -/
theorem s_106 {v x : Int} {h : zM} {Q : zQ} (h1 : (0 ≤ v ∧ v < 6) ∧ 0 ≤ x ∧ x ≤ 99 → Q (some (.inl (h 98 v))) (zx_st h 98 v x)) (h0 : ¬ ((0 ≤ v ∧ v < 6) ∧ 0 ≤ x ∧ x ≤ 99) → Q (some (.inl (-1))) h) : zR 106 [.inr (.inr 81), .inl v, .inl x] h Q := by
  have l98 : zx_ln 98 = (6 : Int) := rfl
  refine zx_met0 zk_106 (Or.inr ⟨_, _, rfl, rfl⟩) (Nat.le_of_ble_eq_true rfl) 1000 (fun hok hM => ?_)
  refine s_85 (fun cv => ?_) (fun cv => ?_)
  · refine And.intro (fun c => absurd c (by decide)) (fun _ => ?_)
    refine s_50 (fun cv => ?_) (fun cv => ?_)
    · refine And.intro (fun c => absurd c (by decide)) (fun _ => ?_)
      refine And.intro (by omega) ?_
      refine And.intro (by omega) ?_
      first | exact h1 (by omega) | exact h0 (by omega)
    · refine And.intro (fun _ => ?_) (fun c => absurd (by decide) c)
      first | exact h1 (by omega) | exact h0 (by omega)
  · refine And.intro (fun _ => ?_) (fun c => absurd (by decide) c)
    first | exact h1 (by omega) | exact h0 (by omega)
set_option maxHeartbeats 4000000 in
set_option maxRecDepth 100000 in
/-- M.begin -/
theorem s_107 {v x : Int} {h : zM} {Q : zQ} (h1 : (0 ≤ v ∧ v < 6) ∧ 0 ≤ x ∧ x ≤ 99 → Q (some (.inl (h 98 v))) (zx_st h 98 v x)) (h0 : ¬ ((0 ≤ v ∧ v < 6) ∧ 0 ≤ x ∧ x ≤ 99) → Q (some (.inl (-1))) h) : zR 107 [.inr (.inr 81), .inl v, .inl x] h Q := by
  refine zx_met0 zk_107 (Or.inr ⟨_, _, rfl, rfl⟩) (Nat.le_of_ble_eq_true rfl) 1000 (fun hok hM => ?_)
  refine s_106 (fun cv => ?_) (fun cv => ?_)
  · first | exact h1 (by assumption) | exact h0 (by assumption)
  · first | exact h1 (by assumption) | exact h0 (by assumption)
set_option maxHeartbeats 4000000 in
set_option maxRecDepth 100000 in
/-- C.begin -/
theorem s_14 {v x : Int} {h : zM} {Q : zQ} (h1 : (0 ≤ v ∧ v < 6) ∧ 0 ≤ x ∧ x ≤ 99 → Q (some (.inl (h 70 v))) (zx_st h 70 v x)) (h0 : ¬ ((0 ≤ v ∧ v < 6) ∧ 0 ≤ x ∧ x ≤ 99) → Q (some (.inl (-1))) h) : zR 14 [.inr (.inr 0), .inl v, .inl x] h Q := by
  have l70 : zx_ln 70 = (6 : Int) := rfl
  refine zx_met0 zk_14 (Or.inr ⟨_, _, rfl, rfl⟩) (Nat.le_of_ble_eq_true rfl) 1000 (fun hok hM => ?_)
  refine s_39 (fun cv => ?_) (fun cv => ?_)
  · refine And.intro (fun c => absurd c (by decide)) (fun _ => ?_)
    refine And.intro (by omega) ?_
    refine And.intro (by omega) ?_
    first | exact h1 (by assumption) | exact h0 (by assumption)
  · refine And.intro (fun _ => ?_) (fun c => absurd (by decide) c)
    first | exact h1 (by assumption) | exact h0 (by assumption)
