/-! CONTRACTS: letters -/
def zLb (b : Nat) : Prop := b = 60 ∨ b = 62
/-- the Letters at b hold the text s -/
def zLt (h : zM) (b : Nat) (s : List Int) : Prop := h b 1 = (s.length : Int) ∧ ∀ k : Nat, k < s.length → h (b + 1) (k : Int) = s.getD k 0
/-- only the Letters at b changed -/
def zLf (b : Nat) : Nat → Int → Bool := fun r _ => Nat.beq r b || Nat.beq r (b + 1)
theorem zgetD_app {s : List Int} {c : Int} {k : Nat} (hk : k < s.length) : (s ++ [c]).getD k 0 = s.getD k 0 := by
  simp [List.getD, List.getElem?_append_left hk]
theorem zgetD_last {s : List Int} {c : Int} : (s ++ [c]).getD s.length 0 = c := by
  simp [List.getD]
theorem zLt_add {h : zM} {b : Nat} {s : List Int} {c : Int} (hs : zLt h b s) : zLt (zx_st (zx_st h (b + 1) (h b 1) c) b 1 (h b 1 + 1)) b (s ++ [c]) := by
  refine ⟨?_, fun k hk => ?_⟩
  · rw [zst_eq, hs.1, List.length_append]
    rfl
  · rw [zst_nr (by omega)]
    rw [List.length_append] at hk
    by_cases hk2 : k < s.length
    · rw [zgetD_app hk2, zst_ne (by rw [hs.1]; omega)]
      exact hs.2 k hk2
    · have : k = s.length := by
        have : [c].length = 1 := rfl
        omega
      subst this
      rw [zgetD_last, hs.1]
      exact zst_eq _ _ _ _
theorem zLf_b {b : Nat} (k : Int) : zLf b b k = true := by
  unfold zLf
  simp
theorem zLf_r {b : Nat} (k : Int) : zLf b (b + 1) k = true := by
  unfold zLf
  simp
set_option maxHeartbeats 4000000 in
set_option maxRecDepth 100000 in
/-- Letters.at -/
theorem s_139 {b : Nat} (hb : zLb b) {s : List Int} {h : zM} (hs : zLt h b s) {i : Int} {Q : zQ} (hl : s.length ≤ 512) (h1 : ∀ k : Nat, (k : Int) = i → k < s.length → Q (some (.inl (s.getD k 0))) h) (h0 : ¬ (0 ≤ i ∧ i < (s.length : Int)) → Q (some (.inl (-1))) h) : zR 139 [.inr (.inr b), .inl i] h Q := by
  have l61 : zx_ln 61 = (512 : Int) := rfl
  have l63 : zx_ln 63 = (512 : Int) := rfl
  obtain ⟨e1, e2⟩ := hs
  rcases hb with rfl | rfl
  all_goals
    refine zx_met0 zk_139 (Or.inr ⟨_, _, rfl, rfl⟩) (Nat.le_of_ble_eq_true rfl) 1000 (fun hok hM => ?_)
    constructor
    · intro c1
      first
      | exact h0 (by omega)
      | (have hk : ((i.toNat : Nat) : Int) = i := Int.toNat_of_nonneg (by omega)
         have hq := h1 i.toNat hk (by omega)
         rw [← e2 i.toNat (by omega), hk] at hq
         exact hq)
    · intro c1
      constructor
      · intro c2
        constructor
        · intro c3
          refine And.intro (by omega) ?_
          first
          | exact h0 (by omega)
          | (have hk : ((i.toNat : Nat) : Int) = i := Int.toNat_of_nonneg (by omega)
             have hq := h1 i.toNat hk (by omega)
             rw [← e2 i.toNat (by omega), hk] at hq
             exact hq)
        · intro c3
          first
          | exact h0 (by omega)
          | (have hk : ((i.toNat : Nat) : Int) = i := Int.toNat_of_nonneg (by omega)
             have hq := h1 i.toNat hk (by omega)
             rw [← e2 i.toNat (by omega), hk] at hq
             exact hq)
      · intro c2
        first
        | exact h0 (by omega)
        | (have hk : ((i.toNat : Nat) : Int) = i := Int.toNat_of_nonneg (by omega)
           have hq := h1 i.toNat hk (by omega)
           rw [← e2 i.toNat (by omega), hk] at hq
           exact hq)
set_option maxHeartbeats 4000000 in
set_option maxRecDepth 100000 in
/-- Letters.add -/
theorem s_140 {b : Nat} (hb : zLb b) {s : List Int} {h : zM} (hs : zLt h b s) {c : Int} {Q : zQ} (hl : s.length < 512) (hc : -128 ≤ c ∧ c < 128) (hq : ∀ h2, zF (zLf b) h h2 → zLt h2 b (s ++ [c]) → Q none h2) : zR 140 [.inr (.inr b), .inl c] h Q := by
  have l61 : zx_ln 61 = (512 : Int) := rfl
  have l63 : zx_ln 63 = (512 : Int) := rfl
  have hz := zLt_add (c := c) hs
  have e1 := hs.1
  rcases hb with rfl | rfl
  all_goals
    refine zx_met0 zk_140 (Or.inr ⟨_, _, rfl, rfl⟩) (Nat.le_of_ble_eq_true rfl) 1000 (fun hok hM => ?_)
    refine And.intro (fun c1 => ?_) (fun c1 => absurd (by omega) c1)
    refine And.intro (by first | omega | (simp [zx_st]; omega)) ?_
    refine And.intro (by omega) ?_
    refine And.intro (by first | omega | (simp [zx_st]; omega)) ?_
    refine And.intro (by first | omega | (simp [zx_st]; omega)) ?_
    exact hq _ ((zF.rf.st rfl).st rfl) hz
/-- a number's digits -/
def zdg (n : Int) : List Int := if n < 10 then [48 + n % 10] else [48 + n / 10 % 10, 48 + n % 10]
theorem zdg_l (n : Int) : (zdg n).length ≤ 2 := by
  unfold zdg
  split <;> simp
/-- an operand, with the blank ahead of it -/
def zop (o : Int) : List Int := 32 :: (if o < 100 then zdg o else [97 + (o - 100)])
theorem zop_l (o : Int) : (zop o).length ≤ 3 := by
  unfold zop
  have := zdg_l o
  split <;> simp <;> omega
set_option maxHeartbeats 4000000 in
set_option maxRecDepth 100000 in
/-- Letters.addNumber -/
theorem s_142 {b : Nat} (hb : zLb b) {s : List Int} {h : zM} (hs : zLt h b s) {n : Int} {Q : zQ} (hl : s.length + 2 ≤ 512) (hn : 0 ≤ n ∧ n < 100) (hq : ∀ h2, zF (zLf b) h h2 → zLt h2 b (s ++ zdg n) → Q none h2) : zR 142 [.inr (.inr b), .inl n] h Q := by
  have hF : zF (zLf b) h h := zF.rf
  rcases hb with rfl | rfl
  all_goals
    refine zx_met0 zk_142 (Or.inr ⟨_, _, rfl, rfl⟩) (Nat.le_of_ble_eq_true rfl) 1000 (fun hok hM => ?_)
    constructor
    · intro c1
      refine And.intro (by omega) ?_
      refine And.intro (by omega) ?_
      refine s_140 (by first | exact Or.inl rfl | exact Or.inr rfl) hs (by (try simp only [List.length_append, List.length_cons, List.length_nil]); omega) (by omega) (fun _ hG hs => ?_)
      replace hF := hF.tr hG
      first
      | (rw [zdg, if_pos (by omega)] at hq; exact hq _ hF hs)
      | (rw [zdg, if_neg (by omega)] at hq; refine hq _ hF ?_; simpa using hs)
    · intro c1
      refine And.intro (by omega) ?_
      refine And.intro (by omega) ?_
      refine And.intro (by omega) ?_
      refine s_140 (by first | exact Or.inl rfl | exact Or.inr rfl) hs (by (try simp only [List.length_append, List.length_cons, List.length_nil]); omega) (by omega) (fun _ hG hs => ?_)
      replace hF := hF.tr hG
      refine And.intro (by omega) ?_
      refine And.intro (by omega) ?_
      refine s_140 (by first | exact Or.inl rfl | exact Or.inr rfl) hs (by (try simp only [List.length_append, List.length_cons, List.length_nil]); omega) (by omega) (fun _ hG hs => ?_)
      replace hF := hF.tr hG
      first
      | (rw [zdg, if_pos (by omega)] at hq; exact hq _ hF hs)
      | (rw [zdg, if_neg (by omega)] at hq; refine hq _ hF ?_; simpa using hs)
set_option maxHeartbeats 4000000 in
set_option maxRecDepth 100000 in
/-- Letters.addPlace -/
theorem s_144 {b : Nat} (hb : zLb b) {s : List Int} {h : zM} (hs : zLt h b s) {n : Int} {Q : zQ} (hl : s.length + 3 ≤ 512) (hn : 0 ≤ n ∧ n < 100) (hq : ∀ h2, zF (zLf b) h h2 → zLt h2 b (s ++ (112 :: zdg n)) → Q none h2) : zR 144 [.inr (.inr b), .inl n] h Q := by
  have hF : zF (zLf b) h h := zF.rf
  rcases hb with rfl | rfl
  all_goals
    refine zx_met0 zk_144 (Or.inr ⟨_, _, rfl, rfl⟩) (Nat.le_of_ble_eq_true rfl) 1000 (fun hok hM => ?_)
    refine s_140 (by first | exact Or.inl rfl | exact Or.inr rfl) hs (by (try simp only [List.length_append, List.length_cons, List.length_nil]); omega) (by omega) (fun _ hG hs => ?_)
    replace hF := hF.tr hG
    refine s_142 (by first | exact Or.inl rfl | exact Or.inr rfl) hs (by (try simp only [List.length_append, List.length_cons, List.length_nil]); omega) (by omega) (fun _ hG hs => ?_)
    replace hF := hF.tr hG
    refine hq _ hF ?_
    simpa using hs
set_option maxHeartbeats 4000000 in
set_option maxRecDepth 100000 in
/-- Letters.addOperand -/
theorem s_143 {b : Nat} (hb : zLb b) {s : List Int} {h : zM} (hs : zLt h b s) {o : Int} {Q : zQ} (hl : s.length + 3 ≤ 512) (ho : 0 ≤ o ∧ o < 106) (hq : ∀ h2, zF (zLf b) h h2 → zLt h2 b (s ++ zop o) → Q none h2) : zR 143 [.inr (.inr b), .inl o] h Q := by
  have hF : zF (zLf b) h h := zF.rf
  rcases hb with rfl | rfl
  all_goals
    refine zx_met0 zk_143 (Or.inr ⟨_, _, rfl, rfl⟩) (Nat.le_of_ble_eq_true rfl) 1000 (fun hok hM => ?_)
    refine s_44 (by omega) (fun cv => ?_) (fun cv => ?_)
    · refine s_140 (by first | exact Or.inl rfl | exact Or.inr rfl) hs (by (try simp only [List.length_append, List.length_cons, List.length_nil]); omega) (by omega) (fun _ hG hs => ?_)
      replace hF := hF.tr hG
      constructor
      · intro c1
        refine s_142 (by first | exact Or.inl rfl | exact Or.inr rfl) hs (by (try simp only [List.length_append, List.length_cons, List.length_nil]); omega) (by omega) (fun _ hG hs => ?_)
        replace hF := hF.tr hG
        first
        | (exfalso; omega)
        | (rw [zop, if_pos (by omega)] at hq; refine hq _ hF ?_; simpa using hs)
        | (rw [zop, if_neg (by omega)] at hq; refine hq _ hF ?_; simpa using hs)
      · intro c1
        refine And.intro (by omega) ?_
        refine s_140 (by first | exact Or.inl rfl | exact Or.inr rfl) hs (by (try simp only [List.length_append, List.length_cons, List.length_nil]); omega) (by omega) (fun _ hG hs => ?_)
        replace hF := hF.tr hG
        first
        | (exfalso; omega)
        | (rw [zop, if_pos (by omega)] at hq; refine hq _ hF ?_; simpa using hs)
        | (rw [zop, if_neg (by omega)] at hq; refine hq _ hF ?_; simpa using hs)
    · refine s_140 (by first | exact Or.inl rfl | exact Or.inr rfl) hs (by (try simp only [List.length_append, List.length_cons, List.length_nil]); omega) (by omega) (fun _ hG hs => ?_)
      replace hF := hF.tr hG
      refine And.intro (fun _ => ?_) (fun c => absurd (by decide) c)
      refine s_142 (by first | exact Or.inl rfl | exact Or.inr rfl) hs (by (try simp only [List.length_append, List.length_cons, List.length_nil]); omega) (by omega) (fun _ hG hs => ?_)
      replace hF := hF.tr hG
      first
      | (exfalso; omega)
      | (rw [zop, if_pos (by omega)] at hq; refine hq _ hF ?_; simpa using hs)
      | (rw [zop, if_neg (by omega)] at hq; refine hq _ hF ?_; simpa using hs)
