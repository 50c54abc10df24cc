/-! CONTRACTS: the reference's page -/
/-- the page holds the text s -/
def zPg (h : zM) (s : List Int) : Prop := h 81 27 = (s.length : Int) ∧ ∀ k : Nat, k < s.length → h 96 (k : Int) = s.getD k 0
def zPf : Nat → Int → Bool := fun r k => Nat.beq r 96 || (Nat.beq r 81 && decide (k = 27))
theorem zPg_add {h : zM} {s : List Int} {c : Int} (hs : zPg h s) : zPg (zx_st (zx_st h 96 (h 81 27) c) 81 27 (h 81 27 + 1)) (s ++ [c]) := by
  refine ⟨?_, fun k hk => ?_⟩
  · rw [zst_eq, hs.1, List.length_append]
    rfl
  · rw [zst_nr (by decide)]
    rw [List.length_append] at hk
    by_cases hk2 : k < s.length
    · rw [zgetD_app hk2, zst_ne (by rw [hs.1]; omega)]
      exact hs.2 k hk2
    · have : k = s.length := by
        have : [c].length = 1 := rfl
        omega
      subst this
      rw [zgetD_last, hs.1]
      exact zst_eq _ _ _ _
set_option maxHeartbeats 4000000 in
set_option maxRecDepth 100000 in
/-- M.shows -/
theorem s_97 {s : List Int} {h : zM} (hs : zPg h s) {c : Int} {Q : zQ} (hl : s.length < 800) (hq : ∀ h2, zF zPf h h2 → zPg h2 (s ++ [c]) → Q none h2) : zR 97 [.inr (.inr 81), .inl c] h Q := by
  have l96 : zx_ln 96 = (800 : Int) := rfl
  have hz := zPg_add (c := c) hs
  have e1 := hs.1
  refine zx_met0 zk_97 (Or.inr ⟨_, _, rfl, rfl⟩) (Nat.le_of_ble_eq_true rfl) 1000 (fun hok hM => ?_)
  refine And.intro (by omega) ?_
  refine And.intro (by first | omega | (simp [zx_st]; omega)) ?_
  exact hq _ ((zF.rf.st rfl).st rfl) hz
set_option maxHeartbeats 4000000 in
set_option maxRecDepth 100000 in
/-- M.showsNumber -/
theorem s_98 {s : List Int} {h : zM} (hs : zPg h s) {n : Int} {Q : zQ} (hl : s.length + 2 ≤ 800) (hn : 0 ≤ n ∧ n < 100) (hq : ∀ h2, zF zPf h h2 → zPg h2 (s ++ zdg n) → Q none h2) : zR 98 [.inr (.inr 81), .inl n] h Q := by
  have hF : zF zPf h h := zF.rf
  refine zx_met0 zk_98 (Or.inr ⟨_, _, rfl, rfl⟩) (Nat.le_of_ble_eq_true rfl) 1000 (fun hok hM => ?_)
  constructor
  · intro c1
    refine And.intro (by omega) ?_
    refine And.intro (by omega) ?_
    refine s_97 hs (by (try simp only [List.length_append, List.length_cons, List.length_nil]); omega) (fun _ hG hs => ?_)
    replace hF := hF.tr hG
    refine And.intro (by omega) ?_
    refine And.intro (by omega) ?_
    refine s_97 hs (by (try simp only [List.length_append, List.length_cons, List.length_nil]); omega) (fun _ hG hs => ?_)
    replace hF := hF.tr hG
    first
    | (rw [zdg, if_pos (by omega)] at hq; exact hq _ hF hs)
    | (rw [zdg, if_neg (by omega), Int.emod_eq_of_lt (a := n / 10) (by omega) (by omega)] at hq; refine hq _ hF ?_; simpa using hs)
  · intro c1
    refine And.intro (by omega) ?_
    refine And.intro (by omega) ?_
    refine s_97 hs (by (try simp only [List.length_append, List.length_cons, List.length_nil]); omega) (fun _ hG hs => ?_)
    replace hF := hF.tr hG
    first
    | (rw [zdg, if_pos (by omega)] at hq; exact hq _ hF hs)
    | (rw [zdg, if_neg (by omega), Int.emod_eq_of_lt (a := n / 10) (by omega) (by omega)] at hq; refine hq _ hF ?_; simpa using hs)
set_option maxHeartbeats 4000000 in
set_option maxRecDepth 100000 in
/-- M.showsOperand -/
theorem s_100 {s : List Int} {h : zM} (hs : zPg h s) {o : Int} {Q : zQ} (hl : s.length + 3 ≤ 800) (ho : 0 ≤ o ∧ o < 106) (hq : ∀ h2, zF zPf h h2 → zPg h2 (s ++ zop o) → Q none h2) : zR 100 [.inr (.inr 81), .inl o] h Q := by
  have hF : zF zPf h h := zF.rf
  refine zx_met0 zk_100 (Or.inr ⟨_, _, rfl, rfl⟩) (Nat.le_of_ble_eq_true rfl) 1000 (fun hok hM => ?_)
  refine s_97 hs (by (try simp only [List.length_append, List.length_cons, List.length_nil]); omega) (fun _ hG hs => ?_)
  replace hF := hF.tr hG
  constructor
  · intro c1
    refine s_98 hs (by (try simp only [List.length_append, List.length_cons, List.length_nil]); omega) (by omega) (fun _ hG hs => ?_)
    replace hF := hF.tr hG
    first
    | (rw [zop, if_pos (by omega)] at hq; refine hq _ hF ?_; simpa using hs)
    | (rw [zop, if_neg (by omega), show (97 : Int) + (o - 100) = 97 + o - 100 from by omega] at hq; refine hq _ hF ?_; simpa using hs)
  · intro c1
    refine And.intro (by omega) ?_
    refine And.intro (by omega) ?_
    refine s_97 hs (by (try simp only [List.length_append, List.length_cons, List.length_nil]); omega) (fun _ hG hs => ?_)
    replace hF := hF.tr hG
    first
    | (rw [zop, if_pos (by omega)] at hq; refine hq _ hF ?_; simpa using hs)
    | (rw [zop, if_neg (by omega), show (97 : Int) + (o - 100) = 97 + o - 100 from by omega] at hq; refine hq _ hF ?_; simpa using hs)
set_option maxHeartbeats 4000000 in
set_option maxRecDepth 100000 in
/-- M.showsPoint -/
theorem s_102 {s : List Int} {h : zM} (hs : zPg h s) {n : Int} {Q : zQ} (hl : s.length + 4 ≤ 800) (hn : 0 ≤ n ∧ n < 100) (hq : ∀ h2, zF zPf h h2 → zPg h2 (s ++ (32 :: 112 :: zdg n)) → Q none h2) : zR 102 [.inr (.inr 81), .inl n] h Q := by
  have hF : zF zPf h h := zF.rf
  refine zx_met0 zk_102 (Or.inr ⟨_, _, rfl, rfl⟩) (Nat.le_of_ble_eq_true rfl) 1000 (fun hok hM => ?_)
  refine s_97 hs (by (try simp only [List.length_append, List.length_cons, List.length_nil]); omega) (fun _ hG hs => ?_)
  replace hF := hF.tr hG
  refine s_97 hs (by (try simp only [List.length_append, List.length_cons, List.length_nil]); omega) (fun _ hG hs => ?_)
  replace hF := hF.tr hG
  refine s_98 hs (by (try simp only [List.length_append, List.length_cons, List.length_nil]); omega) (by omega) (fun _ hG hs => ?_)
  replace hF := hF.tr hG
  refine hq _ hF ?_
  simpa using hs
