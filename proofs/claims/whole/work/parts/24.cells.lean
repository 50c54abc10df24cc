/-! CONTRACTS: the calls that change a cell or two, class and reference -/
set_option maxHeartbeats 4000000 in
set_option maxRecDepth 100000 in
/-- C.feed -/
theorem s_0 {c : Int} {h : zM} {Q : zQ} (hl : 0 ≤ h 2 1 ∧ h 2 1 ≤ 320) (hb : ¬ (0 ≤ c ∧ c ≤ 127) → Q (some (.inl (-1))) h) (hf : 0 ≤ c ∧ c ≤ 127 → h 2 1 = 320 → Q (some (.inl (-3))) h) (h1 : 0 ≤ c ∧ c ≤ 127 → h 2 1 < 320 → Q (some (.inl (h 2 1 + 1))) (zx_st (zx_st h 3 (h 2 1) c) 2 1 (h 2 1 + 1))) : zR 0 [.inr (.inr 0), .inl c] h Q := by
  refine zx_met0 zk_0 (Or.inr ⟨_, _, rfl, rfl⟩) (Nat.le_of_ble_eq_true rfl) 1000 (fun hok hM => ?_)
  constructor
  · intro c1
    first | exact hb (by omega) | exact hf (by omega) (by omega) | exact h1 (by omega) (by omega)
  · intro c1
    constructor
    · intro c2
      first | exact hb (by omega) | exact hf (by omega) (by omega) | exact h1 (by omega) (by omega)
    · intro c2
      refine s_189 (by omega) hl (fun cv => ?_) (fun cv => ?_)
      · refine And.intro (fun c => absurd c (by decide)) (fun _ => ?_)
        first | exact hb (by omega) | exact hf (by omega) (by omega) | exact h1 (by omega) (by omega)
      · refine And.intro (fun _ => ?_) (fun c => absurd (by decide) c)
        first | exact hb (by omega) | exact hf (by omega) (by omega) | exact h1 (by omega) (by omega)
set_option maxHeartbeats 4000000 in
set_option maxRecDepth 100000 in
/-- M.feed -/
theorem s_51 {c : Int} {h : zM} {Q : zQ} (hl : 0 ≤ h 81 2 ∧ h 81 2 ≤ 320) (hb : ¬ (0 ≤ c ∧ c ≤ 127) → Q (some (.inl (-1))) h) (hf : 0 ≤ c ∧ c ≤ 127 → h 81 2 = 320 → Q (some (.inl (-3))) h) (h1 : 0 ≤ c ∧ c ≤ 127 → h 81 2 < 320 → Q (some (.inl (h 81 2 + 1))) (zx_st (zx_st h 83 (h 81 2) c) 81 2 (h 81 2 + 1))) : zR 51 [.inr (.inr 81), .inl c] h Q := by
  have l83 : zx_ln 83 = (320 : Int) := rfl
  refine zx_met0 zk_51 (Or.inr ⟨_, _, rfl, rfl⟩) (Nat.le_of_ble_eq_true rfl) 1000 (fun hok hM => ?_)
  refine s_50 (fun cv => ?_) (fun cv => ?_)
  · refine And.intro (fun c => absurd c (by decide)) (fun _ => ?_)
    constructor
    · intro c1
      first | exact hb (by omega) | exact hf (by omega) (by omega) | exact h1 (by omega) (by omega)
    · intro c1
      refine And.intro (by omega) ?_
      refine And.intro (by first | omega | (simp [zx_st]; omega)) ?_
      first | exact hb (by omega) | exact hf (by omega) (by omega) | exact h1 (by omega) (by omega)
  · refine And.intro (fun _ => ?_) (fun c => absurd (by decide) c)
    first | exact hb (by omega) | exact hf (by omega) (by omega) | exact h1 (by omega) (by omega)
set_option maxHeartbeats 4000000 in
set_option maxRecDepth 100000 in
/-- C.end -/
theorem s_1 {n : Int} {h : zM} {Q : zQ} (h1 : 0 ≤ n ∧ n ≤ h 2 1 → Q (some (.inl (h 2 1))) (zx_st h 2 1 n)) (h0 : ¬ (0 ≤ n ∧ n ≤ h 2 1) → Q (some (.inl (-1))) h) : zR 1 [.inr (.inr 0), .inl n] h Q := by
  refine zx_met0 zk_1 (Or.inr ⟨_, _, rfl, rfl⟩) (Nat.le_of_ble_eq_true rfl) 1000 (fun hok hM => ?_)
  constructor
  · intro c1
    first | exact h1 (by omega) | exact h0 (by omega)
  · intro c1
    constructor
    · intro c2
      first | exact h1 (by omega) | exact h0 (by omega)
    · intro c2
      first | exact h1 (by omega) | exact h0 (by omega)
set_option maxHeartbeats 4000000 in
set_option maxRecDepth 100000 in
/-- M.end -/
theorem s_52 {n : Int} {h : zM} {Q : zQ} (h1 : 0 ≤ n ∧ n ≤ h 81 2 → Q (some (.inl (h 81 2))) (zx_st h 81 2 n)) (h0 : ¬ (0 ≤ n ∧ n ≤ h 81 2) → Q (some (.inl (-1))) h) : zR 52 [.inr (.inr 81), .inl n] h Q := by
  refine zx_met0 zk_52 (Or.inr ⟨_, _, rfl, rfl⟩) (Nat.le_of_ble_eq_true rfl) 1000 (fun hok hM => ?_)
  refine s_50 (fun cv => ?_) (fun cv => ?_)
  · refine And.intro (fun c => absurd c (by decide)) (fun _ => ?_)
    first | exact h1 (by omega) | exact h0 (by omega)
  · refine And.intro (fun _ => ?_) (fun c => absurd (by decide) c)
    first | exact h1 (by omega) | exact h0 (by omega)
set_option maxHeartbeats 4000000 in
set_option maxRecDepth 100000 in
/-- C.step -/
theorem s_6 {i w : Int} {h : zM} {Q : zQ} (hk : zWk h 12) (h1 : (0 ≤ i ∧ i < h 12 8) ∧ 0 ≤ w ∧ w < 5 → Q (some (.inl (h 19 (i * 5 + w)))) h) (h0 : ¬ ((0 ≤ i ∧ i < h 12 8) ∧ 0 ≤ w ∧ w < 5) → Q (some (.inl (-1))) h) : zR 6 [.inr (.inr 0), .inl i, .inl w] h Q := by
  refine zx_met0 zk_6 (Or.inr ⟨_, _, rfl, rfl⟩) (Nat.le_of_ble_eq_true rfl) 1000 (fun hok hM => ?_)
  refine s_199 (by unfold zWb; omega) hk (fun cv => ?_) (fun cv => ?_)
  · first | exact h1 cv | exact h0 cv
  · first | exact h1 cv | exact h0 cv
set_option maxHeartbeats 4000000 in
set_option maxRecDepth 100000 in
/-- M.step -/
theorem s_90 {i w : Int} {h : zM} {Q : zQ} (hs : 0 ≤ h 82 176 ∧ h 82 176 ≤ 24) (h1 : (0 ≤ i ∧ i < h 82 176) ∧ 0 ≤ w ∧ w < 5 → Q (some (.inl (h 82 (24 * w + i)))) h) (h0 : ¬ ((0 ≤ i ∧ i < h 82 176) ∧ 0 ≤ w ∧ w < 5) → Q (some (.inl (-1))) h) : zR 90 [.inr (.inr 81), .inl i, .inl w] h Q := by
  have l82 : zx_ln 82 = (708 : Int) := rfl
  refine zx_met0 zk_90 (Or.inr ⟨_, _, rfl, rfl⟩) (Nat.le_of_ble_eq_true rfl) 1000 (fun hok hM => ?_)
  refine s_84 (by omega) (fun cv => ?_) (fun cv => ?_)
  · refine And.intro (fun c => absurd c (by decide)) (fun _ => ?_)
    refine s_50 (fun cv => ?_) (fun cv => ?_)
    · refine And.intro (fun c => absurd c (by decide)) (fun _ => ?_)
      refine And.intro (by omega) ?_
      refine And.intro (by omega) ?_
      refine And.intro (by omega) ?_
      first | exact h1 (by omega) | exact h0 (by omega)
    · refine And.intro (fun _ => ?_) (fun c => absurd (by decide) c)
      first | exact h1 (by omega) | exact h0 (by omega)
  · refine And.intro (fun _ => ?_) (fun c => absurd (by decide) c)
    first | exact h1 (by omega) | exact h0 (by omega)
set_option maxHeartbeats 4000000 in
set_option maxRecDepth 100000 in
/-- C.give -/
theorem s_7 {v x : Int} {h : zM} {Q : zQ} (h1 : (0 ≤ v ∧ v < 6) ∧ -1 ≤ x ∧ x ≤ 99 → Q (some (.inl (h 45 v))) (zx_st (zx_st h 45 v (if x < 0 then -4 else x)) 0 16 1)) (h0 : ¬ ((0 ≤ v ∧ v < 6) ∧ -1 ≤ x ∧ x ≤ 99) → Q (some (.inl (-1))) h) : zR 7 [.inr (.inr 0), .inl v, .inl x] h Q := by
  have l45 : zx_ln 45 = (6 : Int) := rfl
  refine zx_met0 zk_7 (Or.inr ⟨_, _, rfl, rfl⟩) (Nat.le_of_ble_eq_true rfl) 1000 (fun hok hM => ?_)
  refine s_38 (fun cv => ?_) (fun cv => ?_)
  · refine And.intro (fun c => absurd c (by decide)) (fun _ => ?_)
    constructor
    · intro c1
      first | exact h0 (by omega) | (have hq := h1 (by omega); (first | (rw [if_pos (by omega)] at hq; exact hq) | (rw [if_neg (by omega)] at hq; exact hq)))
    · intro c1
      constructor
      · intro c2
        first | exact h0 (by omega) | (have hq := h1 (by omega); (first | (rw [if_pos (by omega)] at hq; exact hq) | (rw [if_neg (by omega)] at hq; exact hq)))
      · intro c2
        refine And.intro (by omega) ?_
        constructor
        · intro c3
          refine And.intro (by omega) ?_
          refine And.intro (by first | exact Or.inl rfl | exact Or.inr rfl | omega) ?_
          first | exact h0 (by omega) | (have hq := h1 (by omega); (first | (rw [if_pos (by omega)] at hq; exact hq) | (rw [if_neg (by omega)] at hq; exact hq)))
        · intro c3
          refine And.intro (by omega) ?_
          refine And.intro (by first | exact Or.inl rfl | exact Or.inr rfl | omega) ?_
          first | exact h0 (by omega) | (have hq := h1 (by omega); (first | (rw [if_pos (by omega)] at hq; exact hq) | (rw [if_neg (by omega)] at hq; exact hq)))
  · refine And.intro (fun _ => ?_) (fun c => absurd (by decide) c)
    first | exact h0 (by omega) | (have hq := h1 (by omega); (first | (rw [if_pos (by omega)] at hq; exact hq) | (rw [if_neg (by omega)] at hq; exact hq)))
set_option maxHeartbeats 4000000 in
set_option maxRecDepth 100000 in
/-- M.give -/
theorem s_91 {v x : Int} {h : zM} {Q : zQ} (hg : ∀ v, 0 ≤ v → v < 6 → 0 ≤ h 82 (168 + v) ∧ h 82 (168 + v) ≤ 100) (h1 : (0 ≤ v ∧ v < 6) ∧ -1 ≤ x ∧ x ≤ 99 → Q (some (.inl (if h 82 (168 + v) = 0 then -4 else h 82 (168 + v) - 1))) (zx_st (zx_st h 82 (168 + v) (x + 1)) 81 14 0)) (h0 : ¬ ((0 ≤ v ∧ v < 6) ∧ -1 ≤ x ∧ x ≤ 99) → Q (some (.inl (-1))) h) : zR 91 [.inr (.inr 81), .inl v, .inl x] h Q := by
  have l82 : zx_ln 82 = (708 : Int) := rfl
  refine zx_met0 zk_91 (Or.inr ⟨_, _, rfl, rfl⟩) (Nat.le_of_ble_eq_true rfl) 1000 (fun hok hM => ?_)
  refine s_85 (fun cv => ?_) (fun cv => ?_)
  · refine And.intro (fun c => absurd c (by decide)) (fun _ => ?_)
    refine s_50 (fun cv => ?_) (fun cv => ?_)
    · refine And.intro (fun c => absurd c (by decide)) (fun _ => ?_)
      refine And.intro (by first | omega | (have := hg v (by omega) (by omega); omega)) ?_
      refine And.intro (by omega) ?_
      constructor
      · intro c1
        refine And.intro (by first | omega | (have := hg v (by omega) (by omega); omega)) ?_
        refine And.intro (by first | omega | (have := hg v (by omega) (by omega); omega)) ?_
        refine And.intro (by omega) ?_
        refine And.intro (by first | exact Or.inl rfl | exact Or.inr rfl | omega) ?_
        first | exact h0 (by omega) | (have hq := h1 (by omega); (first | (rw [if_pos (by assumption)] at hq; exact hq) | (rw [if_neg (by assumption)] at hq; exact hq)))
      · intro c1
        refine And.intro (by first | omega | (have := hg v (by omega) (by omega); omega)) ?_
        refine And.intro (by omega) ?_
        refine And.intro (by first | omega | (have := hg v (by omega) (by omega); omega)) ?_
        refine And.intro (by first | omega | (have := hg v (by omega) (by omega); omega)) ?_
        refine And.intro (by first | omega | (have := hg v (by omega) (by omega); omega)) ?_
        refine And.intro (by omega) ?_
        refine And.intro (by first | exact Or.inl rfl | exact Or.inr rfl | omega) ?_
        first | exact h0 (by omega) | (have hq := h1 (by omega); (first | (rw [if_pos (by assumption)] at hq; exact hq) | (rw [if_neg (by assumption)] at hq; exact hq)))
    · refine And.intro (fun _ => ?_) (fun c => absurd (by decide) c)
      first | exact h0 (by omega) | (have hq := h1 (by omega); (first | (rw [if_pos (by assumption)] at hq; exact hq) | (rw [if_neg (by assumption)] at hq; exact hq)))
  · refine And.intro (fun _ => ?_) (fun c => absurd (by decide) c)
    first | exact h0 (by omega) | (have hq := h1 (by omega); (first | (rw [if_pos (by assumption)] at hq; exact hq) | (rw [if_neg (by assumption)] at hq; exact hq)))
set_option maxHeartbeats 4000000 in
set_option maxRecDepth 100000 in
/-- C.wise -/
theorem s_8 {v : Int} {h : zM} {Q : zQ} (h1 : 0 ≤ v ∧ v ≤ 1 → Q (some (.inl (h 44 2))) (zx_st (zx_st h 44 2 v) 0 16 1)) (h0 : ¬ (0 ≤ v ∧ v ≤ 1) → Q (some (.inl (-1))) h) : zR 8 [.inr (.inr 0), .inl v] h Q := by
  refine zx_met0 zk_8 (Or.inr ⟨_, _, rfl, rfl⟩) (Nat.le_of_ble_eq_true rfl) 1000 (fun hok hM => ?_)
  constructor
  · intro c1
    first | exact h1 (by omega) | exact h0 (by omega)
  · intro c1
    constructor
    · intro c2
      first | exact h1 (by omega) | exact h0 (by omega)
    · intro c2
      refine And.intro (by first | exact Or.inl rfl | exact Or.inr rfl | omega) ?_
      first | exact h1 (by omega) | exact h0 (by omega)
set_option maxHeartbeats 4000000 in
set_option maxRecDepth 100000 in
/-- M.wise -/
theorem s_92 {v : Int} {h : zM} {Q : zQ} (hw : 0 ≤ h 82 174 ∧ h 82 174 ≤ 1) (h1 : 0 ≤ v ∧ v ≤ 1 → Q (some (.inl (1 - h 82 174))) (zx_st (zx_st h 82 174 (1 - v)) 81 14 0)) (h0 : ¬ (0 ≤ v ∧ v ≤ 1) → Q (some (.inl (-1))) h) : zR 92 [.inr (.inr 81), .inl v] h Q := by
  have l82 : zx_ln 82 = (708 : Int) := rfl
  refine zx_met0 zk_92 (Or.inr ⟨_, _, rfl, rfl⟩) (Nat.le_of_ble_eq_true rfl) 1000 (fun hok hM => ?_)
  refine s_50 (fun cv => ?_) (fun cv => ?_)
  · refine And.intro (fun c => absurd c (by decide)) (fun _ => ?_)
    refine And.intro (by omega) ?_
    refine And.intro (by omega) ?_
    refine And.intro (by omega) ?_
    refine And.intro (by omega) ?_
    refine And.intro (by first | exact Or.inl rfl | exact Or.inr rfl | omega) ?_
    first | exact h1 (by omega) | exact h0 (by omega)
  · refine And.intro (fun _ => ?_) (fun c => absurd (by decide) c)
    first | exact h1 (by omega) | exact h0 (by omega)
set_option maxHeartbeats 4000000 in
set_option maxRecDepth 100000 in
/-- C.alter -/
theorem s_19 {i w v : Int} {h : zM} {Q : zQ} (hk : zWk h 12) (h1 : (0 ≤ i ∧ i < h 12 8) ∧ (1 ≤ w ∧ w < 5) ∧ 0 ≤ h 19 (i * 5 + w) ∧ 0 ≤ v ∧ (w = 1 → v < 6) ∧ (w = 3 → v < 4) ∧ v < 106 → Q (some (.inl (h 19 (i * 5 + w)))) (zx_st (zx_st h 19 (i * 5 + w) v) 0 16 1)) (h0 : ¬ ((0 ≤ i ∧ i < h 12 8) ∧ (1 ≤ w ∧ w < 5) ∧ 0 ≤ h 19 (i * 5 + w) ∧ 0 ≤ v ∧ (w = 1 → v < 6) ∧ (w = 3 → v < 4) ∧ v < 106) → Q (some (.inl (-1))) h) : zR 19 [.inr (.inr 0), .inl i, .inl w, .inl v] h Q := by
  refine zx_met0 zk_19 (Or.inr ⟨_, _, rfl, rfl⟩) (Nat.le_of_ble_eq_true rfl) 1000 (fun hok hM => ?_)
  refine s_199 (by unfold zWb; omega) hk (fun cv => ?_) (fun cv => ?_)
  all_goals simp only [show (12 + 7 : Nat) = 19 from rfl] at *
  · constructor
    · intro c1
      first | exact h0 (by omega) | exact h1 (by omega)
    · intro c1
      constructor
      · intro c2
        first | exact h0 (by omega) | exact h1 (by omega)
      · intro c2
        constructor
        · intro c3
          constructor
          · intro c4
            first | exact h0 (by omega) | exact h1 (by omega)
          · intro c4
            constructor
            · intro c5
              refine s_200 (by unfold zWb; omega) hk (fun cw => ?_) (fun cw => absurd (by omega) cw)
              refine And.intro (by first | exact Or.inl rfl | exact Or.inr rfl | omega) ?_
              first | exact h0 (by omega) | exact h1 (by omega)
            · intro c5
              first | exact h0 (by omega) | exact h1 (by omega)
        · intro c3
          constructor
          · intro c6
            constructor
            · intro c7
              first | exact h0 (by omega) | exact h1 (by omega)
            · intro c7
              constructor
              · intro c8
                refine s_200 (by unfold zWb; omega) hk (fun cw => ?_) (fun cw => absurd (by omega) cw)
                refine And.intro (by first | exact Or.inl rfl | exact Or.inr rfl | omega) ?_
                first | exact h0 (by omega) | exact h1 (by omega)
              · intro c8
                first | exact h0 (by omega) | exact h1 (by omega)
          · intro c6
            constructor
            · intro c9
              first | exact h0 (by omega) | exact h1 (by omega)
            · intro c9
              constructor
              · intro c10
                refine s_200 (by unfold zWb; omega) hk (fun cw => ?_) (fun cw => absurd (by omega) cw)
                refine And.intro (by first | exact Or.inl rfl | exact Or.inr rfl | omega) ?_
                first | exact h0 (by omega) | exact h1 (by omega)
              · intro c10
                first | exact h0 (by omega) | exact h1 (by omega)
  · constructor
    · intro c11
      first | exact h0 (by omega) | exact h1 (by omega)
    · intro c11
      refine And.intro (fun _ => ?_) (fun c => absurd (by decide) c)
      first | exact h0 (by omega) | exact h1 (by omega)
set_option maxHeartbeats 4000000 in
set_option maxRecDepth 100000 in
/-- M.puts -/
theorem s_120 {g a v : Int} {h : zM} {Q : zQ} (ha : ¬ g = 0 → 0 ≤ a ∧ a < 708) (h1 : ¬ g = 0 → Q (some (.inl (h 82 a))) (zx_st (zx_st h 82 a v) 81 14 0)) (h0 : g = 0 → Q (some (.inl (-1))) h) : zR 120 [.inr (.inr 81), .inl g, .inl a, .inl v] h Q := by
  have l82 : zx_ln 82 = (708 : Int) := rfl
  refine zx_met0 zk_120 (Or.inr ⟨_, _, rfl, rfl⟩) (Nat.le_of_ble_eq_true rfl) 1000 (fun hok hM => ?_)
  constructor
  · intro c1
    first | exact h1 (by assumption) | exact h0 (by assumption)
  · intro c1
    refine And.intro (by (have := ha (by assumption); omega)) ?_
    refine And.intro (by (have := ha (by assumption); omega)) ?_
    refine And.intro (by first | exact Or.inl rfl | exact Or.inr rfl | omega) ?_
    first | exact h1 (by assumption) | exact h0 (by assumption)
set_option maxHeartbeats 4000000 in
set_option maxRecDepth 100000 in
/-- M.alter -/
theorem s_122 {i w v : Int} {h : zM} {Q : zQ} (hs : 0 ≤ h 82 176 ∧ h 82 176 ≤ 24) (h1 : (0 ≤ i ∧ i < h 82 176) ∧ (1 ≤ w ∧ w < 5) ∧ ¬ (h 82 i = 1 ∧ ¬ w = 2) ∧ 0 ≤ v ∧ (w = 1 → v < 6) ∧ (w = 3 → v < 4) ∧ v < 106 → Q (some (.inl (h 82 (24 * w + i)))) (zx_st (zx_st h 82 (24 * w + i) v) 81 14 0)) (h0 : ¬ ((0 ≤ i ∧ i < h 82 176) ∧ (1 ≤ w ∧ w < 5) ∧ ¬ (h 82 i = 1 ∧ ¬ w = 2) ∧ 0 ≤ v ∧ (w = 1 → v < 6) ∧ (w = 3 → v < 4) ∧ v < 106) → Q (some (.inl (-1))) h) : zR 122 [.inr (.inr 81), .inl i, .inl w, .inl v] h Q := by
  have l82 : zx_ln 82 = (708 : Int) := rfl
  refine zx_met0 zk_122 (Or.inr ⟨_, _, rfl, rfl⟩) (Nat.le_of_ble_eq_true rfl) 1000 (fun hok hM => ?_)
  refine s_84 (by omega) (fun cv => ?_) (fun cv => ?_)
  · refine And.intro (fun c => absurd c (by decide)) (fun _ => ?_)
    refine s_50 (fun cv => ?_) (fun cv => ?_)
    · refine And.intro (fun c => absurd c (by decide)) (fun _ => ?_)
      refine And.intro (by omega) ?_
      constructor
      · intro c1
        constructor
        · intro c2
          constructor
          · intro c3
            refine s_85 (fun cv => ?_) (fun cv => ?_)
            · refine And.intro (by omega) ?_
              refine And.intro (by omega) ?_
              refine s_120 (fun _ => by omega) (fun cg => ?_) (fun cg => ?_)
              · first | exact h0 (by omega) | exact h1 (by omega) | (exfalso; omega)
              · first | exact h0 (by omega) | exact h1 (by omega) | (exfalso; omega)
            · refine And.intro (by omega) ?_
              refine And.intro (by omega) ?_
              refine s_120 (fun _ => by omega) (fun cg => ?_) (fun cg => ?_)
              · first | exact h0 (by omega) | exact h1 (by omega) | (exfalso; omega)
              · first | exact h0 (by omega) | exact h1 (by omega) | (exfalso; omega)
          · intro c3
            constructor
            · intro c4
              refine s_50 (fun cv => ?_) (fun cv => ?_)
              · refine And.intro (by omega) ?_
                refine And.intro (by omega) ?_
                refine s_120 (fun _ => by omega) (fun cg => ?_) (fun cg => ?_)
                · first | exact h0 (by omega) | exact h1 (by omega) | (exfalso; omega)
                · first | exact h0 (by omega) | exact h1 (by omega) | (exfalso; omega)
              · refine And.intro (by omega) ?_
                refine And.intro (by omega) ?_
                refine s_120 (fun _ => by omega) (fun cg => ?_) (fun cg => ?_)
                · first | exact h0 (by omega) | exact h1 (by omega) | (exfalso; omega)
                · first | exact h0 (by omega) | exact h1 (by omega) | (exfalso; omega)
            · intro c4
              refine s_121 (fun cv => ?_) (fun cv => ?_)
              · refine And.intro (by omega) ?_
                refine And.intro (by omega) ?_
                refine s_120 (fun _ => by omega) (fun cg => ?_) (fun cg => ?_)
                · first | exact h0 (by omega) | exact h1 (by omega) | (exfalso; omega)
                · first | exact h0 (by omega) | exact h1 (by omega) | (exfalso; omega)
              · refine And.intro (by omega) ?_
                refine And.intro (by omega) ?_
                refine s_120 (fun _ => by omega) (fun cg => ?_) (fun cg => ?_)
                · first | exact h0 (by omega) | exact h1 (by omega) | (exfalso; omega)
                · first | exact h0 (by omega) | exact h1 (by omega) | (exfalso; omega)
        · intro c2
          first | exact h0 (by omega) | exact h1 (by omega) | (exfalso; omega)
      · intro c1
        constructor
        · intro c5
          refine s_85 (fun cv => ?_) (fun cv => ?_)
          · refine And.intro (by omega) ?_
            refine And.intro (by omega) ?_
            refine s_120 (fun _ => by omega) (fun cg => ?_) (fun cg => ?_)
            · first | exact h0 (by omega) | exact h1 (by omega) | (exfalso; omega)
            · first | exact h0 (by omega) | exact h1 (by omega) | (exfalso; omega)
          · refine And.intro (by omega) ?_
            refine And.intro (by omega) ?_
            refine s_120 (fun _ => by omega) (fun cg => ?_) (fun cg => ?_)
            · first | exact h0 (by omega) | exact h1 (by omega) | (exfalso; omega)
            · first | exact h0 (by omega) | exact h1 (by omega) | (exfalso; omega)
        · intro c5
          constructor
          · intro c6
            refine s_50 (fun cv => ?_) (fun cv => ?_)
            · refine And.intro (by omega) ?_
              refine And.intro (by omega) ?_
              refine s_120 (fun _ => by omega) (fun cg => ?_) (fun cg => ?_)
              · first | exact h0 (by omega) | exact h1 (by omega) | (exfalso; omega)
              · first | exact h0 (by omega) | exact h1 (by omega) | (exfalso; omega)
            · refine And.intro (by omega) ?_
              refine And.intro (by omega) ?_
              refine s_120 (fun _ => by omega) (fun cg => ?_) (fun cg => ?_)
              · first | exact h0 (by omega) | exact h1 (by omega) | (exfalso; omega)
              · first | exact h0 (by omega) | exact h1 (by omega) | (exfalso; omega)
          · intro c6
            refine s_121 (fun cv => ?_) (fun cv => ?_)
            · refine And.intro (by omega) ?_
              refine And.intro (by omega) ?_
              refine s_120 (fun _ => by omega) (fun cg => ?_) (fun cg => ?_)
              · first | exact h0 (by omega) | exact h1 (by omega) | (exfalso; omega)
              · first | exact h0 (by omega) | exact h1 (by omega) | (exfalso; omega)
            · refine And.intro (by omega) ?_
              refine And.intro (by omega) ?_
              refine s_120 (fun _ => by omega) (fun cg => ?_) (fun cg => ?_)
              · first | exact h0 (by omega) | exact h1 (by omega) | (exfalso; omega)
              · first | exact h0 (by omega) | exact h1 (by omega) | (exfalso; omega)
    · refine And.intro (fun _ => ?_) (fun c => absurd (by decide) c)
      first | exact h0 (by omega) | exact h1 (by omega) | (exfalso; omega)
  · refine And.intro (fun _ => ?_) (fun c => absurd (by decide) c)
    first | exact h0 (by omega) | exact h1 (by omega) | (exfalso; omega)
