/-! CONTRACTS: frames, tapes, sheets, rows -/
theorem zR_mono {j : Nat} {As : List zV} {h : zM} {Q Q2 : zQ} (hq : ∀ rv h, Q rv h → Q2 rv h) (hr : zR j As h Q) : zR j As h Q2 :=
  ⟨hr.1, fun a b l D ad adV cA A => zMet_mono (fun _ _ _ _ hz => zc_Qc_mono hq hz) (hr.2 a b l D ad adV cA A)⟩
/-- nothing changed but where f says so -/
def zF (f : Nat → Int → Bool) (h h2 : zM) : Prop := ∀ r k, f r k = false → h2 r k = h r k
theorem zF.rf {f : Nat → Int → Bool} {h : zM} : zF f h h := fun _ _ _ => rfl
theorem zF.tr {f : Nat → Int → Bool} {h h2 h3 : zM} (a : zF f h h2) (b : zF f h2 h3) : zF f h h3 := fun r k hf => (b r k hf).trans (a r k hf)
theorem zF.mono {f g : Nat → Int → Bool} {h h2 : zM} (hg : ∀ r k, g r k = false → f r k = false) (a : zF f h h2) : zF g h h2 := fun r k hf => a r k (hg r k hf)
theorem zF.row {f : Nat → Int → Bool} {h h2 : zM} (a : zF f h h2) (r : Nat) (hr : ∀ k, f r k = false) : h2 r = h r := funext fun k => a r k (hr k)
theorem zF.st {f : Nat → Int → Bool} {h h2 : zM} {r : Nat} {k v : Int} (a : zF f h h2) (hf : f r k = true) : zF f h (zx_st h2 r k v) := by
  intro r2 k2 h0
  show (if r2 = r ∧ k2 = k then v else h2 r2 k2) = _
  rw [if_neg, a r2 k2 h0]
  rintro ⟨rfl, rfl⟩
  rw [hf] at h0
  cases h0
theorem zst_eq (h : zM) (r : Nat) (k v : Int) : zx_st h r k v r k = v := if_pos ⟨rfl, rfl⟩
theorem zst_ne {h : zM} {r r2 : Nat} {k k2 v : Int} (hn : k2 ≠ k) : zx_st h r k v r2 k2 = h r2 k2 := if_neg (fun z => hn z.2)
theorem zst_nr {h : zM} {r r2 : Nat} {k k2 v : Int} (hn : r2 ≠ r) : zx_st h r k v r2 k2 = h r2 k2 := if_neg (fun z => hn z.1)
theorem zst_row {h : zM} {r r2 : Nat} {k v : Int} (hn : r2 ≠ r) : zx_st h r k v r2 = h r2 := funext fun _ => zst_nr hn
def zin : Nat → List Nat → Bool
  | _, [] => false
  | r, a :: l => Nat.beq r a || zin r l
/-- a row r, and fields ks of the place p -/
def zf_row (a : Nat) : Nat → Int → Bool := fun r _ => Nat.beq r a
/-- counting up: f 0, then f 1, .. -/
def zit {α : Type} (f : Nat → α → α) : Nat → α → α
  | 0, a => a
  | n + 1, a => f n (zit f n a)
/-- the places of sheets -/
def zSh (b : Nat) : Prop := b = 73 ∨ b = 75 ∨ b = 77 ∨ b = 79
set_option maxHeartbeats 4000000 in
set_option maxRecDepth 100000 in
/-- Tape.append -/
theorem s_189 {c : Int} {h : zM} {Q : zQ} (hc : 0 ≤ c ∧ c ≤ 127) (hl : 0 ≤ h 2 1 ∧ h 2 1 ≤ 320) (h1 : h 2 1 < 320 → Q (some (.inl 1)) (zx_st (zx_st h 3 (h 2 1) c) 2 1 (h 2 1 + 1))) (h0 : h 2 1 = 320 → Q (some (.inl 0)) h) : zR 189 [.inr (.inr 2), .inl c] h Q := by
  have l3 : zx_ln 3 = (320 : Int) := rfl
  refine zx_met0 zk_189 (Or.inr ⟨_, _, rfl, rfl⟩) (Nat.le_of_ble_eq_true rfl) 1000 (fun hok hM => ?_)
  constructor
  · intro c1
    refine And.intro (by first | omega | (simp [zx_st]; omega)) ?_
    refine And.intro (by show 0 ≤ _ ∧ _ < (320 : Int); omega) ?_
    refine And.intro (by first | omega | (simp [zx_st]; omega)) ?_
    refine And.intro (by first | omega | (simp [zx_st]; omega)) ?_
    refine And.intro (by first | exact Or.inl rfl | exact Or.inr rfl | omega) ?_
    first | exact h0 (by omega) | exact h1 (by omega)
  · intro c1
    refine And.intro (by first | exact Or.inl rfl | exact Or.inr rfl | omega) ?_
    first | exact h0 (by omega) | exact h1 (by omega)
set_option maxHeartbeats 4000000 in
set_option maxRecDepth 100000 in
/-- Tape.at -/
theorem s_190 {i : Int} {h : zM} {Q : zQ} (hl : 0 ≤ h 2 1 ∧ h 2 1 ≤ 320) (h1 : 0 ≤ i ∧ i < h 2 1 → Q (some (.inl (h 3 i))) h) (h0 : ¬ (0 ≤ i ∧ i < h 2 1) → Q (some (.inl (-4))) h) : zR 190 [.inr (.inr 2), .inl i] h Q := by
  have l3 : zx_ln 3 = (320 : Int) := rfl
  refine zx_met0 zk_190 (Or.inr ⟨_, _, rfl, rfl⟩) (Nat.le_of_ble_eq_true rfl) 1000 (fun hok hM => ?_)
  constructor
  · intro c1
    first | exact h1 (by omega) | exact h0 (by omega) | (exfalso; first | exact c3 (show i < (320 : Int) by omega) | exact absurd (show i < (320 : Int) by omega) (by assumption) | omega)
  · intro c1
    constructor
    · intro c2
      constructor
      · intro c3
        refine And.intro (by show 0 ≤ _ ∧ _ < (320 : Int); omega) ?_
        first | exact h1 (by omega) | exact h0 (by omega) | (exfalso; first | exact c3 (show i < (320 : Int) by omega) | exact absurd (show i < (320 : Int) by omega) (by assumption) | omega)
      · intro c3
        first | exact h1 (by omega) | exact h0 (by omega) | (exfalso; first | exact c3 (show i < (320 : Int) by omega) | exact absurd (show i < (320 : Int) by omega) (by assumption) | omega)
    · intro c2
      first | exact h1 (by omega) | exact h0 (by omega) | (exfalso; first | exact c3 (show i < (320 : Int) by omega) | exact absurd (show i < (320 : Int) by omega) (by assumption) | omega)
set_option maxHeartbeats 4000000 in
set_option maxRecDepth 100000 in
/-- Sheet.faultAt -/
theorem s_185 {b : Nat} (hb : zSh b) {i : Int} {h : zM} {Q : zQ} (h1 : h b 1 = -4 → Q (some (.inl 1)) h) (h2 : ¬ h b 1 = -4 → ¬ (0 ≤ i ∧ i < h b 2) → Q (some (.inl 2)) h) (h0 : ¬ h b 1 = -4 → 0 ≤ i ∧ i < h b 2 → Q (some (.inl 0)) h) : zR 185 [.inr (.inr b), .inl i] h Q := by
  have l74 : zx_ln 74 = (40 : Int) := rfl
  have l76 : zx_ln 76 = (40 : Int) := rfl
  have l78 : zx_ln 78 = (40 : Int) := rfl
  have l80 : zx_ln 80 = (40 : Int) := rfl
  rcases hb with rfl | rfl | rfl | rfl
  all_goals
    refine zx_met0 zk_185 (Or.inr ⟨_, _, rfl, rfl⟩) (Nat.le_of_ble_eq_true rfl) 1000 (fun hok hM => ?_)
    constructor
    · intro c1
      first | exact h1 (by omega) | exact h2 (by omega) (by omega) | exact h0 (by omega) (by omega)
    · intro c1
      constructor
      · intro c2
        first | exact h1 (by omega) | exact h2 (by omega) (by omega) | exact h0 (by omega) (by omega)
      · intro c2
        constructor
        · intro c3
          first | exact h1 (by omega) | exact h2 (by omega) (by omega) | exact h0 (by omega) (by omega)
        · intro c3
          first | exact h1 (by omega) | exact h2 (by omega) (by omega) | exact h0 (by omega) (by omega)
set_option maxHeartbeats 4000000 in
set_option maxRecDepth 100000 in
/-- Sheet.cellAt -/
theorem s_187 {b : Nat} (hb : zSh b) {i : Int} {h : zM} {Q : zQ} (hl : h b 2 ≤ 40) (h1 : ¬ h b 1 = -4 ∧ 0 ≤ i ∧ i < h b 2 → Q (some (.inl (h (b + 1) i))) h) (h0 : ¬ (¬ h b 1 = -4 ∧ 0 ≤ i ∧ i < h b 2) → Q (some (.inl 0)) h) : zR 187 [.inr (.inr b), .inl i] h Q := by
  have l74 : zx_ln 74 = (40 : Int) := rfl
  have l76 : zx_ln 76 = (40 : Int) := rfl
  have l78 : zx_ln 78 = (40 : Int) := rfl
  have l80 : zx_ln 80 = (40 : Int) := rfl
  rcases hb with rfl | rfl | rfl | rfl
  all_goals
    refine zx_met0 zk_187 (Or.inr ⟨_, _, rfl, rfl⟩) (Nat.le_of_ble_eq_true rfl) 1000 (fun hok hM => ?_)
    refine s_185 (by first | assumption | (unfold zSh; omega)) (fun d1 => ?_) (fun d1 d2 => ?_) (fun d1 d2 => ?_)
    · refine And.intro (fun c => absurd c (by decide)) (fun _ => ?_)
      first | exact h1 (by omega) | exact h0 (by omega)
    · refine And.intro (fun c => absurd c (by decide)) (fun _ => ?_)
      first | exact h1 (by omega) | exact h0 (by omega)
    · refine And.intro (fun _ => ?_) (fun c => absurd (by decide) c)
      refine And.intro (by show 0 ≤ _ ∧ _ < (40 : Int); omega) ?_
      first | exact h1 (by omega) | exact h0 (by omega)
set_option maxHeartbeats 4000000 in
set_option maxRecDepth 100000 in
/-- Sheet.faultOfPair -/
theorem s_186 {b : Nat} (hb : zSh b) {l i : Int} {h : zM} {Q : zQ} (hi : -2147483648 ≤ i ∧ i < 2147483647) (h3 : ¬ h b 1 = -4 → ¬ h b 1 = l → Q (some (.inl 3)) h) (h1 : h b 1 = -4 → Q (some (.inl 1)) h) (h2 : h b 1 = l → ¬ h b 1 = -4 → ¬ (0 ≤ i ∧ i + 1 < h b 2) → Q (some (.inl 2)) h) (h0 : h b 1 = l → ¬ h b 1 = -4 → 0 ≤ i ∧ i + 1 < h b 2 → Q (some (.inl 0)) h) : zR 186 [.inr (.inr b), .inl l, .inl i] h Q := by
  have l74 : zx_ln 74 = (40 : Int) := rfl
  have l76 : zx_ln 76 = (40 : Int) := rfl
  have l78 : zx_ln 78 = (40 : Int) := rfl
  have l80 : zx_ln 80 = (40 : Int) := rfl
  rcases hb with rfl | rfl | rfl | rfl
  all_goals
    refine zx_met0 zk_186 (Or.inr ⟨_, _, rfl, rfl⟩) (Nat.le_of_ble_eq_true rfl) 1000 (fun hok hM => ?_)
    constructor
    · intro c1
      refine s_185 (by first | assumption | (unfold zSh; omega)) (fun d1 => ?_) (fun d1 d2 => ?_) (fun d1 d2 => ?_)
      · refine And.intro (fun c => absurd c (by decide)) (fun _ => ?_)
        first | exact h1 (by omega) | exact h3 (by omega) (by omega) | exact h2 (by omega) (by omega) (by omega) | exact h0 (by omega) (by omega) (by omega) | (exfalso; omega)
      · refine And.intro (fun c => absurd c (by decide)) (fun _ => ?_)
        first | exact h1 (by omega) | exact h3 (by omega) (by omega) | exact h2 (by omega) (by omega) (by omega) | exact h0 (by omega) (by omega) (by omega) | (exfalso; omega)
      · refine And.intro (fun _ => ?_) (fun c => absurd (by decide) c)
        refine And.intro (by omega) ?_
        refine s_185 (by first | assumption | (unfold zSh; omega)) (fun d1 => ?_) (fun d1 d2 => ?_) (fun d1 d2 => ?_)
        · first | exact h1 (by omega) | exact h3 (by omega) (by omega) | exact h2 (by omega) (by omega) (by omega) | exact h0 (by omega) (by omega) (by omega) | (exfalso; omega)
        · first | exact h1 (by omega) | exact h3 (by omega) (by omega) | exact h2 (by omega) (by omega) (by omega) | exact h0 (by omega) (by omega) (by omega) | (exfalso; omega)
        · first | exact h1 (by omega) | exact h3 (by omega) (by omega) | exact h2 (by omega) (by omega) (by omega) | exact h0 (by omega) (by omega) (by omega) | (exfalso; omega)
    · intro c1
      constructor
      · intro c2
        refine s_185 (by first | assumption | (unfold zSh; omega)) (fun d1 => ?_) (fun d1 d2 => ?_) (fun d1 d2 => ?_)
        · refine And.intro (fun c => absurd c (by decide)) (fun _ => ?_)
          first | exact h1 (by omega) | exact h3 (by omega) (by omega) | exact h2 (by omega) (by omega) (by omega) | exact h0 (by omega) (by omega) (by omega) | (exfalso; omega)
        · refine And.intro (fun c => absurd c (by decide)) (fun _ => ?_)
          first | exact h1 (by omega) | exact h3 (by omega) (by omega) | exact h2 (by omega) (by omega) (by omega) | exact h0 (by omega) (by omega) (by omega) | (exfalso; omega)
        · refine And.intro (fun _ => ?_) (fun c => absurd (by decide) c)
          refine And.intro (by omega) ?_
          refine s_185 (by first | assumption | (unfold zSh; omega)) (fun d1 => ?_) (fun d1 d2 => ?_) (fun d1 d2 => ?_)
          · first | exact h1 (by omega) | exact h3 (by omega) (by omega) | exact h2 (by omega) (by omega) (by omega) | exact h0 (by omega) (by omega) (by omega) | (exfalso; omega)
          · first | exact h1 (by omega) | exact h3 (by omega) (by omega) | exact h2 (by omega) (by omega) (by omega) | exact h0 (by omega) (by omega) (by omega) | (exfalso; omega)
          · first | exact h1 (by omega) | exact h3 (by omega) (by omega) | exact h2 (by omega) (by omega) (by omega) | exact h0 (by omega) (by omega) (by omega) | (exfalso; omega)
      · intro c2
        first | exact h1 (by omega) | exact h3 (by omega) (by omega) | exact h2 (by omega) (by omega) (by omega) | exact h0 (by omega) (by omega) (by omega) | (exfalso; omega)
set_option maxHeartbeats 4000000 in
set_option maxRecDepth 100000 in
/-- Sheet.put -/
theorem s_188 {b : Nat} (hb : zSh b) {i v : Int} {h : zM} {Q : zQ} (hl : h b 2 ≤ 40) (h1 : ¬ h b 1 = -4 ∧ 0 ≤ i ∧ i < h b 2 → Q none (zx_st h (b + 1) i (if h b 1 = 0 then zx_b v else if h b 1 = 1 then zx_s v else v))) (h0 : ¬ (¬ h b 1 = -4 ∧ 0 ≤ i ∧ i < h b 2) → Q none h) : zR 188 [.inr (.inr b), .inl i, .inl v] h Q := by
  have l74 : zx_ln 74 = (40 : Int) := rfl
  have l76 : zx_ln 76 = (40 : Int) := rfl
  have l78 : zx_ln 78 = (40 : Int) := rfl
  have l80 : zx_ln 80 = (40 : Int) := rfl
  rcases hb with rfl | rfl | rfl | rfl
  all_goals
    refine zx_met0 zk_188 (Or.inr ⟨_, _, rfl, rfl⟩) (Nat.le_of_ble_eq_true rfl) 1000 (fun hok hM => ?_)
    refine s_185 (by first | assumption | (unfold zSh; omega)) (fun d1 => ?_) (fun d1 d2 => ?_) (fun d1 d2 => ?_)
    · refine And.intro (fun c => absurd c (by decide)) (fun _ => ?_)
      first | exact h0 (by omega) | (have hq := h1 (by omega); (first | (rw [if_pos (by omega)] at hq; exact hq) | (rw [if_neg (by omega), if_pos (by omega)] at hq; exact hq) | (rw [if_neg (by omega), if_neg (by omega)] at hq; exact hq))) | (exfalso; omega)
    · refine And.intro (fun c => absurd c (by decide)) (fun _ => ?_)
      first | exact h0 (by omega) | (have hq := h1 (by omega); (first | (rw [if_pos (by omega)] at hq; exact hq) | (rw [if_neg (by omega), if_pos (by omega)] at hq; exact hq) | (rw [if_neg (by omega), if_neg (by omega)] at hq; exact hq))) | (exfalso; omega)
    · refine And.intro (fun _ => ?_) (fun c => absurd (by decide) c)
      constructor
      · intro c1
        refine And.intro (by show 0 ≤ _ ∧ _ < (40 : Int); omega) ?_
        first | exact h0 (by omega) | (have hq := h1 (by omega); (first | (rw [if_pos (by omega)] at hq; exact hq) | (rw [if_neg (by omega), if_pos (by omega)] at hq; exact hq) | (rw [if_neg (by omega), if_neg (by omega)] at hq; exact hq))) | (exfalso; omega)
      · intro c1
        constructor
        · intro c2
          refine And.intro (by show 0 ≤ _ ∧ _ < (40 : Int); omega) ?_
          first | exact h0 (by omega) | (have hq := h1 (by omega); (first | (rw [if_pos (by omega)] at hq; exact hq) | (rw [if_neg (by omega), if_pos (by omega)] at hq; exact hq) | (rw [if_neg (by omega), if_neg (by omega)] at hq; exact hq))) | (exfalso; omega)
        · intro c2
          refine And.intro (by show 0 ≤ _ ∧ _ < (40 : Int); omega) ?_
          first | exact h0 (by omega) | (have hq := h1 (by omega); (first | (rw [if_pos (by omega)] at hq; exact hq) | (rw [if_neg (by omega), if_pos (by omega)] at hq; exact hq) | (rw [if_neg (by omega), if_neg (by omega)] at hq; exact hq))) | (exfalso; omega)
set_option maxHeartbeats 4000000 in
set_option maxRecDepth 100000 in
/-- Sheet.renew -/
theorem s_184 {b : Nat} (hb : zSh b) {l n : Int} {h : zM} {Q : zQ} (hn : 0 ≤ n ∧ n ≤ 40) (hq : ∀ h2, zF (fun r _ => Nat.beq r b || Nat.beq r (b + 1)) h h2 → h2 b 1 = l → h2 b 2 = n → (∀ i, 0 ≤ i → i < 40 → h2 (b + 1) i = 0) → Q none h2) : zR 184 [.inr (.inr b), .inl l, .inl n] h Q := by
  obtain ⟨B, hB⟩ : ∃ B, B = b := ⟨_, rfl⟩
  have l74 : zx_ln 74 = (40 : Int) := rfl
  have l76 : zx_ln 76 = (40 : Int) := rfl
  have l78 : zx_ln 78 = (40 : Int) := rfl
  have l80 : zx_ln 80 = (40 : Int) := rfl
  rcases hb with rfl | rfl | rfl | rfl
  all_goals
    refine zx_met zk_184 (Or.inr ⟨_, _, rfl, rfl⟩) (Nat.le_of_ble_eq_true rfl) (fun _ => false) 1000 (fun m i L S h2 => i = 14 ∧ S = [] ∧ ∃ k : Nat, L = [some (.inr (.inr B)), some (.inl l), some (.inl n), some (.inl (k : Int))] ∧ k ≤ 40 ∧ m = 40 - k ∧ zF (fun r _ => Nat.beq r B || Nat.beq r (B + 1)) h h2 ∧ h2 B 1 = l ∧ h2 B 2 = n ∧ ∀ i, 0 ≤ i → i < (k : Int) → h2 (B + 1) i = 0) (fun hok hM => ?_) (fun hok hM => ?_)
    · subst hB
      refine ⟨40, rfl, rfl, 0, rfl, by omega, rfl, (zF.rf.st rfl).st rfl, ?_, ?_, fun i h0 h1 => by omega⟩
      · rw [zst_ne (by decide), zst_eq]
      · rw [zst_eq]
        (repeat' split) <;> omega
    · subst hB
      rintro m i L S h2 hM2 ⟨rfl, rfl, k, rfl, hk, hm, hF, e1, e2, e3⟩
      constructor
      · intro c1
        have c1 : _ := c1
        refine And.intro (by show 0 ≤ _ ∧ _ < (40 : Int); omega) ?_
        refine And.intro (by omega) ?_
        have hk2 : (k : Int) < 40 := by omega
        refine ⟨40 - (k + 1), by omega, rfl, rfl, k + 1, rfl, by omega, rfl, hF.st rfl, ?_, ?_, fun i h0 h1 => ?_⟩
        · rw [zst_nr (by decide)]; exact e1
        · rw [zst_nr (by decide)]; exact e2
        · by_cases hi : i = (k : Int)
          · rw [hi]; exact zst_eq _ _ _ _
          · rw [zst_ne hi]; exact e3 i h0 (by omega)
      · intro c1
        have c1 : _ := c1
        have hk2 : (40 : Int) ≤ k := by omega
        exact hq h2 hF e1 e2 (fun i h0 h1 => e3 i h0 (by omega))
