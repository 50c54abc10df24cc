/-! CONTRACTS: lead, images, sheets: class and reference -/
def zsb (k : Int) : Nat := 73 + 2 * k.toNat
set_option maxHeartbeats 4000000 in
set_option maxRecDepth 100000 in
/-- C.isBlock -/
theorem s_35 {p : Int} {h : zM} {Q : zQ} (h1 : 0 ≤ p ∧ p < h 12 7 → Q (some (.inl 1)) h) (h0 : ¬ (0 ≤ p ∧ p < h 12 7) → Q (some (.inl 0)) h) : zR 35 [.inr (.inr 0), .inl p] h Q := by
  refine zx_met0 zk_35 (Or.inr ⟨_, _, rfl, rfl⟩) (Nat.le_of_ble_eq_true rfl) 1000 (fun hok hM => ?_)
  constructor
  · intro c1
    refine And.intro (by first | exact Or.inl rfl | exact Or.inr rfl | omega) ?_
    first | exact h1 (by omega) | exact h0 (by omega)
  · intro c1
    constructor
    · intro c2
      refine And.intro (by first | exact Or.inl rfl | exact Or.inr rfl | omega) ?_
      first | exact h1 (by omega) | exact h0 (by omega)
    · intro c2
      refine And.intro (by first | exact Or.inl rfl | exact Or.inr rfl | omega) ?_
      first | exact h1 (by omega) | exact h0 (by omega)
set_option maxHeartbeats 4000000 in
set_option maxRecDepth 100000 in
/-- C.lead -/
theorem s_20 {p w v : Int} {h : zM} {Q : zQ} (hk : h 12 7 ≤ 8) (h1 : (0 ≤ p ∧ p < h 12 7) ∧ (3 ≤ w ∧ w ≤ 5) ∧ 0 ≤ h (13 + w.toNat) p ∧ 0 ≤ v ∧ (w = 5 → v < 6) ∧ (w < 5 → v < h 12 7) → Q (some (.inl (h (13 + w.toNat) p))) (zx_st (zx_st h (13 + w.toNat) p v) 0 16 1)) (h0 : ¬ ((0 ≤ p ∧ p < h 12 7) ∧ (3 ≤ w ∧ w ≤ 5) ∧ 0 ≤ h (13 + w.toNat) p ∧ 0 ≤ v ∧ (w = 5 → v < 6) ∧ (w < 5 → v < h 12 7)) → Q (some (.inl (-1))) h) : zR 20 [.inr (.inr 0), .inl p, .inl w, .inl v] h Q := by
  refine zx_met0 zk_20 (Or.inr ⟨_, _, rfl, rfl⟩) (Nat.le_of_ble_eq_true rfl) 1000 (fun hok hM => ?_)
  refine s_197 (by unfold zWb; omega) hk (fun cu => ?_) (fun cu => ?_)
  all_goals simp only [show (12 + 1 : Nat) = 13 from rfl] at *
  · constructor
    · intro c1
      first | exact h1 (by omega) | exact h0 (by omega) | (exfalso; omega)
    · intro c1
      constructor
      · intro c2
        first | exact h1 (by omega) | exact h0 (by omega) | (exfalso; omega)
      · intro c2
        constructor
        · intro c3
          first | exact h1 (by omega) | exact h0 (by omega) | (exfalso; omega)
        · intro c3
          constructor
          · intro c4
            refine s_38 (fun cv => ?_) (fun cv => ?_)
            · refine And.intro (fun c => absurd c (by decide)) (fun _ => ?_)
              refine s_198 (by unfold zWb; omega) hk (fun cw => ?_) (fun cw => absurd (by omega) cw)
              refine And.intro (by first | exact Or.inl rfl | exact Or.inr rfl | omega) ?_
              first | exact h1 (by omega) | exact h0 (by omega) | (exfalso; omega)
            · refine And.intro (fun _ => ?_) (fun c => absurd (by decide) c)
              first | exact h1 (by omega) | exact h0 (by omega) | (exfalso; omega)
          · intro c4
            refine s_35 (fun cv => ?_) (fun cv => ?_)
            · refine And.intro (fun c => absurd c (by decide)) (fun _ => ?_)
              refine s_198 (by unfold zWb; omega) hk (fun cw => ?_) (fun cw => absurd (by omega) cw)
              refine And.intro (by first | exact Or.inl rfl | exact Or.inr rfl | omega) ?_
              first | exact h1 (by omega) | exact h0 (by omega) | (exfalso; omega)
            · refine And.intro (fun _ => ?_) (fun c => absurd (by decide) c)
              first | exact h1 (by omega) | exact h0 (by omega) | (exfalso; omega)
  · constructor
    · intro c5
      first | exact h1 (by omega) | exact h0 (by omega) | (exfalso; omega)
    · intro c5
      constructor
      · intro c6
        first | exact h1 (by omega) | exact h0 (by omega) | (exfalso; omega)
      · intro c6
        refine And.intro (fun _ => ?_) (fun c => absurd (by decide) c)
        first | exact h1 (by omega) | exact h0 (by omega) | (exfalso; omega)
set_option maxHeartbeats 4000000 in
set_option maxRecDepth 100000 in
/-- M.lead -/
theorem s_123 {p w v : Int} {h : zM} {Q : zQ} (hb : 0 ≤ h 82 175 ∧ h 82 175 ≤ 8) (h1 : (0 ≤ p ∧ p < h 82 175) ∧ (3 ≤ w ∧ w ≤ 5) ∧ ¬ h 82 (136 + p) = 2 ∧ ¬ (3 < w ∧ h 82 (136 + p) = 0) ∧ 0 ≤ v ∧ (w = 5 → v < 6) ∧ (w < 5 → v < h 82 175) → Q (some (.inl (h 82 (120 + 8 * w + p)))) (zx_st (zx_st h 82 (120 + 8 * w + p) v) 81 14 0)) (h0 : ¬ ((0 ≤ p ∧ p < h 82 175) ∧ (3 ≤ w ∧ w ≤ 5) ∧ ¬ h 82 (136 + p) = 2 ∧ ¬ (3 < w ∧ h 82 (136 + p) = 0) ∧ 0 ≤ v ∧ (w = 5 → v < 6) ∧ (w < 5 → v < h 82 175)) → Q (some (.inl (-1))) h) : zR 123 [.inr (.inr 81), .inl p, .inl w, .inl v] h Q := by
  have l82 : zx_ln 82 = (708 : Int) := rfl
  refine zx_met0 zk_123 (Or.inr ⟨_, _, rfl, rfl⟩) (Nat.le_of_ble_eq_true rfl) 1000 (fun hok hM => ?_)
  refine s_83 (by omega) (fun cv => ?_) (fun cv => ?_)
  · refine And.intro (fun c => absurd c (by decide)) (fun _ => ?_)
    refine s_50 (fun cv => ?_) (fun cv => ?_)
    · refine And.intro (fun c => absurd c (by decide)) (fun _ => ?_)
      refine And.intro (by omega) ?_
      refine And.intro (by omega) ?_
      constructor
      · intro c1
        first | exact h1 (by omega) | exact h0 (by omega) | (exfalso; omega)
      · intro c1
        constructor
        · intro c2
          refine And.intro (by omega) ?_
          refine And.intro (by omega) ?_
          constructor
          · intro c3
            first | exact h1 (by omega) | exact h0 (by omega) | (exfalso; omega)
          · intro c3
            constructor
            · intro c4
              refine s_85 (fun cv => ?_) (fun cv => ?_)
              · refine And.intro (by omega) ?_
                refine And.intro (by omega) ?_
                refine And.intro (by omega) ?_
                refine s_120 (fun _ => by omega) (fun cg => ?_) (fun cg => ?_)
                · first | exact h1 (by omega) | exact h0 (by omega) | (exfalso; omega)
                · first | exact h1 (by omega) | exact h0 (by omega) | (exfalso; omega)
              · refine And.intro (by omega) ?_
                refine And.intro (by omega) ?_
                refine And.intro (by omega) ?_
                refine s_120 (fun _ => by omega) (fun cg => ?_) (fun cg => ?_)
                · first | exact h1 (by omega) | exact h0 (by omega) | (exfalso; omega)
                · first | exact h1 (by omega) | exact h0 (by omega) | (exfalso; omega)
            · intro c4
              refine s_83 (by omega) (fun cv => ?_) (fun cv => ?_)
              · refine And.intro (by omega) ?_
                refine And.intro (by omega) ?_
                refine And.intro (by omega) ?_
                refine s_120 (fun _ => by omega) (fun cg => ?_) (fun cg => ?_)
                · first | exact h1 (by omega) | exact h0 (by omega) | (exfalso; omega)
                · first | exact h1 (by omega) | exact h0 (by omega) | (exfalso; omega)
              · refine And.intro (by omega) ?_
                refine And.intro (by omega) ?_
                refine And.intro (by omega) ?_
                refine s_120 (fun _ => by omega) (fun cg => ?_) (fun cg => ?_)
                · first | exact h1 (by omega) | exact h0 (by omega) | (exfalso; omega)
                · first | exact h1 (by omega) | exact h0 (by omega) | (exfalso; omega)
        · intro c2
          constructor
          · intro c5
            refine s_85 (fun cv => ?_) (fun cv => ?_)
            · refine And.intro (by omega) ?_
              refine And.intro (by omega) ?_
              refine And.intro (by omega) ?_
              refine s_120 (fun _ => by omega) (fun cg => ?_) (fun cg => ?_)
              · first | exact h1 (by omega) | exact h0 (by omega) | (exfalso; omega)
              · first | exact h1 (by omega) | exact h0 (by omega) | (exfalso; omega)
            · refine And.intro (by omega) ?_
              refine And.intro (by omega) ?_
              refine And.intro (by omega) ?_
              refine s_120 (fun _ => by omega) (fun cg => ?_) (fun cg => ?_)
              · first | exact h1 (by omega) | exact h0 (by omega) | (exfalso; omega)
              · first | exact h1 (by omega) | exact h0 (by omega) | (exfalso; omega)
          · intro c5
            refine s_83 (by omega) (fun cv => ?_) (fun cv => ?_)
            · refine And.intro (by omega) ?_
              refine And.intro (by omega) ?_
              refine And.intro (by omega) ?_
              refine s_120 (fun _ => by omega) (fun cg => ?_) (fun cg => ?_)
              · first | exact h1 (by omega) | exact h0 (by omega) | (exfalso; omega)
              · first | exact h1 (by omega) | exact h0 (by omega) | (exfalso; omega)
            · refine And.intro (by omega) ?_
              refine And.intro (by omega) ?_
              refine And.intro (by omega) ?_
              refine s_120 (fun _ => by omega) (fun cg => ?_) (fun cg => ?_)
              · first | exact h1 (by omega) | exact h0 (by omega) | (exfalso; omega)
              · first | exact h1 (by omega) | exact h0 (by omega) | (exfalso; omega)
    · refine And.intro (fun _ => ?_) (fun c => absurd (by decide) c)
      first | exact h1 (by omega) | exact h0 (by omega) | (exfalso; omega)
  · refine And.intro (fun _ => ?_) (fun c => absurd (by decide) c)
    first | exact h1 (by omega) | exact h0 (by omega) | (exfalso; omega)
set_option maxHeartbeats 4000000 in
set_option maxRecDepth 100000 in
/-- M.copies -/
theorem s_67 {f t : Int} {h : zM} {Q : zQ} (hf : 0 ≤ f ∧ f ≤ 531) (ht : 0 ≤ t ∧ t ≤ 531) (hd : f + 177 ≤ t ∨ t + 177 ≤ f) (hq : ∀ h2, zF (fun r _ => Nat.beq r 82) h h2 → (∀ k, 0 ≤ k → k < 177 → h2 82 (t + k) = h 82 (f + k)) → (∀ k, ¬ (t ≤ k ∧ k < t + 177) → h2 82 k = h 82 k) → Q none h2) : zR 67 [.inr (.inr 81), .inl f, .inl t] h Q := by
  have l82 : zx_ln 82 = (708 : Int) := rfl
  refine zx_met zk_67 (Or.inr ⟨_, _, rfl, rfl⟩) (Nat.le_of_ble_eq_true rfl) (fun _ => false) 1000 (fun m i L S h2 => i = 2 ∧ S = [] ∧ ∃ k : Nat, L = [some (.inr (.inr 81)), some (.inl f), some (.inl t), some (.inl (k : Int))] ∧ k ≤ 177 ∧ m = 177 - k ∧ zF (fun r _ => Nat.beq r 82) h h2 ∧ (∀ i, 0 ≤ i → i < (k : Int) → h2 82 (t + i) = h 82 (f + i)) ∧ ∀ i, ¬ (t ≤ i ∧ i < t + k) → h2 82 i = h 82 i) (fun hok hM => ?_) (fun hok hM => ?_)
  · exact ⟨177, rfl, rfl, 0, rfl, by omega, rfl, zF.rf, fun i h0 h1 => by omega, fun i _ => rfl⟩
  · rintro m i L S h2 hM2 ⟨rfl, rfl, k, rfl, hk, hm, hF, e1, e2⟩
    constructor
    · intro c1
      refine And.intro (by omega) ?_
      refine And.intro (by omega) ?_
      refine And.intro (by omega) ?_
      refine And.intro (by omega) ?_
      refine And.intro (by omega) ?_
      refine ⟨177 - (k + 1), by omega, rfl, rfl, k + 1, rfl, by omega, rfl, hF.st rfl, fun i h0 h1 => ?_, fun i hi => ?_⟩
      · by_cases hi : i = (k : Int)
        · rw [hi]
          refine (zst_eq _ _ _ _).trans ?_
          exact e2 _ (by omega)
        · rw [zst_ne (by omega)]
          exact e1 i h0 (by omega)
      · rw [zst_ne (by omega)]
        exact e2 i (by omega)
    · intro c1
      have hk6 : k = 177 := by omega
      subst hk6
      exact hq h2 hF e1 e2
set_option maxHeartbeats 4000000 in
set_option maxRecDepth 100000 in
/-- C.keep -/
theorem s_21_0 {h : zM} {Q : zQ} (hq : ∀ h2, zF (fun r _ => (Nat.ble 20 r && Nat.ble r 27) || Nat.beq r 46 || Nat.beq r 47 || Nat.beq r 51) h h2 → h2 20 7 = h 12 7 → h2 20 8 = h 12 8 → (∀ (w : Nat) (k : Int), w < 6 → 0 ≤ k → k < 8 → h2 (21 + w) k = h (13 + w) k) → (∀ k, 0 ≤ k → k < 120 → h2 27 k = h 19 k) → (∀ k, 0 ≤ k → k < 6 → h2 47 k = h 45 k) → h2 46 2 = h 44 2 →  h2 51 0 = 1 → h2 51 1 = h 51 1 → Q (some (.inl (if h 51 0 = 0 then 0 else 1))) h2) : zR 21 [.inr (.inr 0), .inl 0] h Q := by
  have l50 : zx_ln 50 = (2 : Int) := rfl
  have l51 : zx_ln 51 = (2 : Int) := rfl
  refine zx_met0 zk_21 (Or.inr ⟨_, _, rfl, rfl⟩) (Nat.le_of_ble_eq_true rfl) 1000 (fun hok hM => ?_)
  refine And.intro (fun c1 => absurd c1 (by omega)) (fun c1 => ?_)
  refine And.intro (fun c2 => ?_) (fun c2 => absurd (by omega) c2)
  refine And.intro (by omega) ?_
  constructor
  · intro c3
    refine And.intro (by omega) ?_
    refine s_162 (b := 44) (c := 46) (by unfold zCg; omega) (fun h2 hF e1 e2 e3 e4 e5 e6 => ?_)
    refine And.intro (by omega) ?_
    refine And.intro (by first | exact Or.inl rfl | exact Or.inr rfl | omega) ?_
    first
    | (have hq := hq (zx_st h2 51 0 1) ((hF.mono (fun r k hf => by simp only [Bool.or_eq_false_iff] at hf ⊢; exact hf.1)).st rfl) e1 e2 (fun w k a b c => (zst_nr (by omega)).trans (e3 w k a b c)) (fun k a b => (zst_nr (by decide)).trans (e4 k a b)) (fun k a b => (zst_nr (by decide)).trans (e5 k a b)) e6 (zst_eq _ _ _ _) ((zst_ne (by decide)).trans (hF 51 1 rfl))
       rw [if_pos (by assumption)] at hq
       exact hq)
    | (have hq := hq (zx_st h2 51 0 1) ((hF.mono (fun r k hf => by simp only [Bool.or_eq_false_iff] at hf ⊢; exact hf.1)).st rfl) e1 e2 (fun w k a b c => (zst_nr (by omega)).trans (e3 w k a b c)) (fun k a b => (zst_nr (by decide)).trans (e4 k a b)) (fun k a b => (zst_nr (by decide)).trans (e5 k a b)) e6 (zst_eq _ _ _ _) ((zst_ne (by decide)).trans (hF 51 1 rfl))
       rw [if_neg (by assumption)] at hq
       exact hq)
  · intro c3
    refine And.intro (by omega) ?_
    refine s_162 (b := 44) (c := 46) (by unfold zCg; omega) (fun h2 hF e1 e2 e3 e4 e5 e6 => ?_)
    refine And.intro (by omega) ?_
    refine And.intro (by first | exact Or.inl rfl | exact Or.inr rfl | omega) ?_
    first
    | (have hq := hq (zx_st h2 51 0 1) ((hF.mono (fun r k hf => by simp only [Bool.or_eq_false_iff] at hf ⊢; exact hf.1)).st rfl) e1 e2 (fun w k a b c => (zst_nr (by omega)).trans (e3 w k a b c)) (fun k a b => (zst_nr (by decide)).trans (e4 k a b)) (fun k a b => (zst_nr (by decide)).trans (e5 k a b)) e6 (zst_eq _ _ _ _) ((zst_ne (by decide)).trans (hF 51 1 rfl))
       rw [if_pos (by assumption)] at hq
       exact hq)
    | (have hq := hq (zx_st h2 51 0 1) ((hF.mono (fun r k hf => by simp only [Bool.or_eq_false_iff] at hf ⊢; exact hf.1)).st rfl) e1 e2 (fun w k a b c => (zst_nr (by omega)).trans (e3 w k a b c)) (fun k a b => (zst_nr (by decide)).trans (e4 k a b)) (fun k a b => (zst_nr (by decide)).trans (e5 k a b)) e6 (zst_eq _ _ _ _) ((zst_ne (by decide)).trans (hF 51 1 rfl))
       rw [if_neg (by assumption)] at hq
       exact hq)
set_option maxHeartbeats 4000000 in
set_option maxRecDepth 100000 in
/-- C.back -/
theorem s_22_0 {h : zM} {Q : zQ} (hs : h 51 0 = 0 → Q (some (.inl (-2))) h) (hq : ¬ h 51 0 = 0 → ∀ h2, zF (fun r k => (Nat.ble 12 r && Nat.ble r 19) || Nat.beq r 44 || Nat.beq r 45 || (Nat.beq r 0 && (decide (k = 15) || decide (k = 16)))) h h2 → h2 12 7 = h 20 7 → h2 12 8 = h 20 8 → (∀ (w : Nat) (k : Int), w < 6 → 0 ≤ k → k < 8 → h2 (13 + w) k = h (21 + w) k) → (∀ k, 0 ≤ k → k < 120 → h2 19 k = h 27 k) → (∀ k, 0 ≤ k → k < 6 → h2 45 k = h 47 k) → h2 44 2 = h 46 2 →  h2 0 15 = 0 → h2 0 16 = 1 → Q (some (.inl (h2 12 7))) h2) : zR 22 [.inr (.inr 0), .inl 0] h Q := by
  have l50 : zx_ln 50 = (2 : Int) := rfl
  have l51 : zx_ln 51 = (2 : Int) := rfl
  refine zx_met0 zk_22 (Or.inr ⟨_, _, rfl, rfl⟩) (Nat.le_of_ble_eq_true rfl) 1000 (fun hok hM => ?_)
  refine And.intro (fun c1 => absurd c1 (by omega)) (fun c1 => ?_)
  refine And.intro (fun c2 => ?_) (fun c2 => absurd (by omega) c2)
  refine And.intro (by omega) ?_
  constructor
  · intro c3
    first
    | exact hs (by assumption)
    | (refine hq (by assumption) _ (((hF.mono (fun r k hf => ?_)).st rfl).st rfl) e1 e2 (fun w k a b c => ?_) (fun k a b => e4 k a b) (fun k a b => e5 k a b) e6 rfl rfl
       · simp only [Bool.or_eq_false_iff] at hf ⊢
         exact hf.1
       · rw [zst_nr (by omega), zst_nr (by omega)]
         exact e3 w k a b c)
  · intro c3
    refine And.intro (by omega) ?_
    refine s_162 (b := 46) (c := 44) (by unfold zCg; omega) (fun h2 hF e1 e2 e3 e4 e5 e6 => ?_)
    refine And.intro (by first | exact Or.inl rfl | exact Or.inr rfl | omega) ?_
    refine And.intro (by first | exact Or.inl rfl | exact Or.inr rfl | omega) ?_
    first
    | exact hs (by assumption)
    | (refine hq (by assumption) _ (((hF.mono (fun r k hf => ?_)).st rfl).st rfl) e1 e2 (fun w k a b c => ?_) (fun k a b => e4 k a b) (fun k a b => e5 k a b) e6 rfl rfl
       · simp only [Bool.or_eq_false_iff] at hf ⊢
         exact hf.1
       · rw [zst_nr (by omega), zst_nr (by omega)]
         exact e3 w k a b c)
set_option maxHeartbeats 4000000 in
set_option maxRecDepth 100000 in
/-- C.keep -/
theorem s_21_1 {h : zM} {Q : zQ} (hq : ∀ h2, zF (fun r _ => (Nat.ble 28 r && Nat.ble r 35) || Nat.beq r 48 || Nat.beq r 49 || Nat.beq r 51) h h2 → h2 28 7 = h 12 7 → h2 28 8 = h 12 8 → (∀ (w : Nat) (k : Int), w < 6 → 0 ≤ k → k < 8 → h2 (29 + w) k = h (13 + w) k) → (∀ k, 0 ≤ k → k < 120 → h2 35 k = h 19 k) → (∀ k, 0 ≤ k → k < 6 → h2 49 k = h 45 k) → h2 48 2 = h 44 2 →  h2 51 1 = 1 → h2 51 0 = h 51 0 → Q (some (.inl (if h 51 1 = 0 then 0 else 1))) h2) : zR 21 [.inr (.inr 0), .inl 1] h Q := by
  have l50 : zx_ln 50 = (2 : Int) := rfl
  have l51 : zx_ln 51 = (2 : Int) := rfl
  refine zx_met0 zk_21 (Or.inr ⟨_, _, rfl, rfl⟩) (Nat.le_of_ble_eq_true rfl) 1000 (fun hok hM => ?_)
  refine And.intro (fun c1 => absurd c1 (by omega)) (fun c1 => ?_)
  refine And.intro (fun c2 => ?_) (fun c2 => absurd (by omega) c2)
  refine And.intro (by omega) ?_
  constructor
  · intro c3
    refine And.intro (by omega) ?_
    refine s_162 (b := 44) (c := 48) (by unfold zCg; omega) (fun h2 hF e1 e2 e3 e4 e5 e6 => ?_)
    refine And.intro (by omega) ?_
    refine And.intro (by first | exact Or.inl rfl | exact Or.inr rfl | omega) ?_
    first
    | (have hq := hq (zx_st h2 51 1 1) ((hF.mono (fun r k hf => by simp only [Bool.or_eq_false_iff] at hf ⊢; exact hf.1)).st rfl) e1 e2 (fun w k a b c => (zst_nr (by omega)).trans (e3 w k a b c)) (fun k a b => (zst_nr (by decide)).trans (e4 k a b)) (fun k a b => (zst_nr (by decide)).trans (e5 k a b)) e6 (zst_eq _ _ _ _) ((zst_ne (by decide)).trans (hF 51 0 rfl))
       rw [if_pos (by assumption)] at hq
       exact hq)
    | (have hq := hq (zx_st h2 51 1 1) ((hF.mono (fun r k hf => by simp only [Bool.or_eq_false_iff] at hf ⊢; exact hf.1)).st rfl) e1 e2 (fun w k a b c => (zst_nr (by omega)).trans (e3 w k a b c)) (fun k a b => (zst_nr (by decide)).trans (e4 k a b)) (fun k a b => (zst_nr (by decide)).trans (e5 k a b)) e6 (zst_eq _ _ _ _) ((zst_ne (by decide)).trans (hF 51 0 rfl))
       rw [if_neg (by assumption)] at hq
       exact hq)
  · intro c3
    refine And.intro (by omega) ?_
    refine s_162 (b := 44) (c := 48) (by unfold zCg; omega) (fun h2 hF e1 e2 e3 e4 e5 e6 => ?_)
    refine And.intro (by omega) ?_
    refine And.intro (by first | exact Or.inl rfl | exact Or.inr rfl | omega) ?_
    first
    | (have hq := hq (zx_st h2 51 1 1) ((hF.mono (fun r k hf => by simp only [Bool.or_eq_false_iff] at hf ⊢; exact hf.1)).st rfl) e1 e2 (fun w k a b c => (zst_nr (by omega)).trans (e3 w k a b c)) (fun k a b => (zst_nr (by decide)).trans (e4 k a b)) (fun k a b => (zst_nr (by decide)).trans (e5 k a b)) e6 (zst_eq _ _ _ _) ((zst_ne (by decide)).trans (hF 51 0 rfl))
       rw [if_pos (by assumption)] at hq
       exact hq)
    | (have hq := hq (zx_st h2 51 1 1) ((hF.mono (fun r k hf => by simp only [Bool.or_eq_false_iff] at hf ⊢; exact hf.1)).st rfl) e1 e2 (fun w k a b c => (zst_nr (by omega)).trans (e3 w k a b c)) (fun k a b => (zst_nr (by decide)).trans (e4 k a b)) (fun k a b => (zst_nr (by decide)).trans (e5 k a b)) e6 (zst_eq _ _ _ _) ((zst_ne (by decide)).trans (hF 51 0 rfl))
       rw [if_neg (by assumption)] at hq
       exact hq)
set_option maxHeartbeats 4000000 in
set_option maxRecDepth 100000 in
/-- C.back -/
theorem s_22_1 {h : zM} {Q : zQ} (hs : h 51 1 = 0 → Q (some (.inl (-2))) h) (hq : ¬ h 51 1 = 0 → ∀ h2, zF (fun r k => (Nat.ble 12 r && Nat.ble r 19) || Nat.beq r 44 || Nat.beq r 45 || (Nat.beq r 0 && (decide (k = 15) || decide (k = 16)))) h h2 → h2 12 7 = h 28 7 → h2 12 8 = h 28 8 → (∀ (w : Nat) (k : Int), w < 6 → 0 ≤ k → k < 8 → h2 (13 + w) k = h (29 + w) k) → (∀ k, 0 ≤ k → k < 120 → h2 19 k = h 35 k) → (∀ k, 0 ≤ k → k < 6 → h2 45 k = h 49 k) → h2 44 2 = h 48 2 →  h2 0 15 = 0 → h2 0 16 = 1 → Q (some (.inl (h2 12 7))) h2) : zR 22 [.inr (.inr 0), .inl 1] h Q := by
  have l50 : zx_ln 50 = (2 : Int) := rfl
  have l51 : zx_ln 51 = (2 : Int) := rfl
  refine zx_met0 zk_22 (Or.inr ⟨_, _, rfl, rfl⟩) (Nat.le_of_ble_eq_true rfl) 1000 (fun hok hM => ?_)
  refine And.intro (fun c1 => absurd c1 (by omega)) (fun c1 => ?_)
  refine And.intro (fun c2 => ?_) (fun c2 => absurd (by omega) c2)
  refine And.intro (by omega) ?_
  constructor
  · intro c3
    first
    | exact hs (by assumption)
    | (refine hq (by assumption) _ (((hF.mono (fun r k hf => ?_)).st rfl).st rfl) e1 e2 (fun w k a b c => ?_) (fun k a b => e4 k a b) (fun k a b => e5 k a b) e6 rfl rfl
       · simp only [Bool.or_eq_false_iff] at hf ⊢
         exact hf.1
       · rw [zst_nr (by omega), zst_nr (by omega)]
         exact e3 w k a b c)
  · intro c3
    refine And.intro (by omega) ?_
    refine s_162 (b := 48) (c := 44) (by unfold zCg; omega) (fun h2 hF e1 e2 e3 e4 e5 e6 => ?_)
    refine And.intro (by first | exact Or.inl rfl | exact Or.inr rfl | omega) ?_
    refine And.intro (by first | exact Or.inl rfl | exact Or.inr rfl | omega) ?_
    first
    | exact hs (by assumption)
    | (refine hq (by assumption) _ (((hF.mono (fun r k hf => ?_)).st rfl).st rfl) e1 e2 (fun w k a b c => ?_) (fun k a b => e4 k a b) (fun k a b => e5 k a b) e6 rfl rfl
       · simp only [Bool.or_eq_false_iff] at hf ⊢
         exact hf.1
       · rw [zst_nr (by omega), zst_nr (by omega)]
         exact e3 w k a b c)
set_option maxHeartbeats 4000000 in
set_option maxRecDepth 100000 in
/-- C.keep -/
theorem s_21_b {k : Int} (hk : ¬ (0 ≤ k ∧ k < 2)) {h : zM} {Q : zQ} (hq : Q (some (.inl (-1))) h) : zR 21 [.inr (.inr 0), .inl k] h Q := by
  refine zx_met0 zk_21 (Or.inr ⟨_, _, rfl, rfl⟩) (Nat.le_of_ble_eq_true rfl) 1000 (fun hok hM => ?_)
  constructor
  · intro c1
    exact hq
  · intro c1
    refine And.intro (fun c2 => absurd c2 (by omega)) (fun c2 => ?_)
    exact hq
set_option maxHeartbeats 4000000 in
set_option maxRecDepth 100000 in
/-- C.back -/
theorem s_22_b {k : Int} (hk : ¬ (0 ≤ k ∧ k < 2)) {h : zM} {Q : zQ} (hq : Q (some (.inl (-1))) h) : zR 22 [.inr (.inr 0), .inl k] h Q := by
  refine zx_met0 zk_22 (Or.inr ⟨_, _, rfl, rfl⟩) (Nat.le_of_ble_eq_true rfl) 1000 (fun hok hM => ?_)
  constructor
  · intro c1
    exact hq
  · intro c1
    refine And.intro (fun c2 => absurd c2 (by omega)) (fun c2 => ?_)
    exact hq
set_option maxHeartbeats 4000000 in
set_option maxRecDepth 100000 in
/-- M.keep -/
theorem s_124 {k : Int} {h : zM} {Q : zQ} (h0 : ¬ (0 ≤ k ∧ k < 2) → Q (some (.inl (-1))) h) (h1 : 0 ≤ k ∧ k < 2 → ∀ h2, zF (fun r _ => Nat.beq r 82 || Nat.beq r 103) h h2 → (∀ i, 0 ≤ i → i < 177 → h2 82 (177 * k + 177 + i) = h 82 i) → (∀ i, ¬ (177 * k + 177 ≤ i ∧ i < 177 * k + 177 + 177) → h2 82 i = h 82 i) → h2 103 k = 1 → (∀ i, ¬ i = k → h2 103 i = h 103 i) → Q (some (.inl (if h 103 k = 0 then 0 else 1))) h2) : zR 124 [.inr (.inr 81), .inl k] h Q := by
  have l82 : zx_ln 82 = (708 : Int) := rfl
  have l103 : zx_ln 103 = (2 : Int) := rfl
  refine zx_met0 zk_124 (Or.inr ⟨_, _, rfl, rfl⟩) (Nat.le_of_ble_eq_true rfl) 1000 (fun hok hM => ?_)
  refine s_50 (fun cv => ?_) (fun cv => ?_)
  · refine And.intro (fun c => absurd c (by decide)) (fun _ => ?_)
    refine And.intro (by omega) ?_
    constructor
    · intro c1
      refine And.intro (by omega) ?_
      refine And.intro (by omega) ?_
      refine s_67 (by omega) (by omega) (by omega) (fun h2 hF e1 e2 => ?_)
      refine And.intro (by omega) ?_
      refine And.intro (by first | exact Or.inl rfl | exact Or.inr rfl | omega) ?_
      first
      | exact h0 (by omega)
      | (have hq := h1 (by omega) (zx_st h2 103 k 1) ((hF.mono (fun r k hf => by simp only [Bool.or_eq_false_iff] at hf ⊢; exact hf.1)).st rfl) (fun i a b => by have := e1 i a b; rw [Int.zero_add] at this; rw [zst_nr (by decide)]; exact this) (fun i a => (zst_nr (by decide)).trans (e2 i a)) (zst_eq _ _ _ _) (fun i a => (zst_ne a).trans (hF 103 i rfl))
         first
         | (rw [if_pos (by assumption)] at hq; exact hq)
         | (rw [if_neg (by assumption)] at hq; exact hq))
    · intro c1
      refine And.intro (by omega) ?_
      refine And.intro (by omega) ?_
      refine s_67 (by omega) (by omega) (by omega) (fun h2 hF e1 e2 => ?_)
      refine And.intro (by omega) ?_
      refine And.intro (by first | exact Or.inl rfl | exact Or.inr rfl | omega) ?_
      first
      | exact h0 (by omega)
      | (have hq := h1 (by omega) (zx_st h2 103 k 1) ((hF.mono (fun r k hf => by simp only [Bool.or_eq_false_iff] at hf ⊢; exact hf.1)).st rfl) (fun i a b => by have := e1 i a b; rw [Int.zero_add] at this; rw [zst_nr (by decide)]; exact this) (fun i a => (zst_nr (by decide)).trans (e2 i a)) (zst_eq _ _ _ _) (fun i a => (zst_ne a).trans (hF 103 i rfl))
         first
         | (rw [if_pos (by assumption)] at hq; exact hq)
         | (rw [if_neg (by assumption)] at hq; exact hq))
  · refine And.intro (fun _ => ?_) (fun c => absurd (by decide) c)
    first
    | exact h0 (by omega)
    | (have hq := h1 (by omega) (zx_st h2 103 k 1) ((hF.mono (fun r k hf => by simp only [Bool.or_eq_false_iff] at hf ⊢; exact hf.1)).st rfl) (fun i a b => by have := e1 i a b; rw [Int.zero_add] at this; rw [zst_nr (by decide)]; exact this) (fun i a => (zst_nr (by decide)).trans (e2 i a)) (zst_eq _ _ _ _) (fun i a => (zst_ne a).trans (hF 103 i rfl))
       first
       | (rw [if_pos (by assumption)] at hq; exact hq)
       | (rw [if_neg (by assumption)] at hq; exact hq))
set_option maxHeartbeats 4000000 in
set_option maxRecDepth 100000 in
/-- M.back -/
theorem s_125 {k : Int} {h : zM} {Q : zQ} (h0 : ¬ (0 ≤ k ∧ k < 2) → Q (some (.inl (-1))) h) (hs : 0 ≤ k ∧ k < 2 → h 103 k = 0 → Q (some (.inl (-2))) h) (h1 : 0 ≤ k ∧ k < 2 → ¬ h 103 k = 0 → ∀ h2, zF (fun r k => Nat.beq r 82 || (Nat.beq r 81 && (decide (k = 14) || decide (k = 36)))) h h2 → (∀ i, 0 ≤ i → i < 177 → h2 82 i = h 82 (177 * k + 177 + i)) → (∀ i, ¬ (0 ≤ i ∧ i < 177) → h2 82 i = h 82 i) → h2 81 14 = 0 → h2 81 36 = 0 → Q (some (.inl (h2 82 175))) h2) : zR 125 [.inr (.inr 81), .inl k] h Q := by
  have l82 : zx_ln 82 = (708 : Int) := rfl
  have l103 : zx_ln 103 = (2 : Int) := rfl
  refine zx_met0 zk_125 (Or.inr ⟨_, _, rfl, rfl⟩) (Nat.le_of_ble_eq_true rfl) 1000 (fun hok hM => ?_)
  refine s_50 (fun cv => ?_) (fun cv => ?_)
  · refine And.intro (fun c => absurd c (by decide)) (fun _ => ?_)
    refine And.intro (by omega) ?_
    constructor
    · intro c1
      first
      | exact h0 (by omega)
      | exact hs (by omega) (by assumption)
      | (refine h1 (by omega) (by assumption) _ (((hF.mono (fun r k hf => ?_)).st rfl).st rfl) (fun i a b => ?_) (fun i a => ?_) rfl rfl
         · simp only [Bool.or_eq_false_iff] at hf ⊢
           exact hf.1
         · have := e1 i a b
           rw [Int.zero_add] at this
           exact this
         · exact e2 i (by omega))
    · intro c1
      refine And.intro (by omega) ?_
      refine And.intro (by omega) ?_
      refine s_67 (by omega) (by omega) (by omega) (fun h2 hF e1 e2 => ?_)
      refine And.intro (by first | exact Or.inl rfl | exact Or.inr rfl | omega) ?_
      refine And.intro (by first | exact Or.inl rfl | exact Or.inr rfl | omega) ?_
      refine And.intro (by omega) ?_
      first
      | exact h0 (by omega)
      | exact hs (by omega) (by assumption)
      | (refine h1 (by omega) (by assumption) _ (((hF.mono (fun r k hf => ?_)).st rfl).st rfl) (fun i a b => ?_) (fun i a => ?_) rfl rfl
         · simp only [Bool.or_eq_false_iff] at hf ⊢
           exact hf.1
         · have := e1 i a b
           rw [Int.zero_add] at this
           exact this
         · exact e2 i (by omega))
  · refine And.intro (fun _ => ?_) (fun c => absurd (by decide) c)
    first
    | exact h0 (by omega)
    | exact hs (by omega) (by assumption)
    | (refine h1 (by omega) (by assumption) _ (((hF.mono (fun r k hf => ?_)).st rfl).st rfl) (fun i a b => ?_) (fun i a => ?_) rfl rfl
       · simp only [Bool.or_eq_false_iff] at hf ⊢
         exact hf.1
       · have := e1 i a b
         rw [Int.zero_add] at this
         exact this
       · exact e2 i (by omega))
