/-! CONTRACTS: rows copied, webs, programs -/
/-- webs that are copied, one to another -/
def zCw (b c : Nat) : Prop := (b = 4 ∧ c = 12) ∨ (b = 12 ∧ c = 20) ∨ (b = 12 ∧ c = 28) ∨ (b = 20 ∧ c = 12) ∨ (b = 28 ∧ c = 12)
/-- programs that are copied -/
def zCg (b c : Nat) : Prop := (b = 44 ∧ c = 46) ∨ (b = 44 ∧ c = 48) ∨ (b = 46 ∧ c = 44) ∨ (b = 48 ∧ c = 44)
theorem zF.cp {f : Nat → Int → Bool} {h h2 : zM} {a c : Nat} {sp dp n : Int} (x : zF f h h2) (hf : ∀ k, f c k = true) : zF f h (zx_cp h2 a sp c dp n) := by
  intro r2 k2 h0
  show (if r2 = c ∧ _ then _ else h2 r2 k2) = _
  rw [if_neg, x r2 k2 h0]
  rintro ⟨rfl, -⟩
  rw [hf] at h0
  cases h0
theorem zQh {Q : zQ} {h h2 : zM} {r : Option zV} (e : h = h2) (hq : Q r h2) : Q r h := by rw [e]; exact hq
def zCr (a c : Nat) (n : Int) : Prop := (a = 5 ∧ c = 13 ∧ n = 8) ∨ (a = 6 ∧ c = 14 ∧ n = 8) ∨ (a = 7 ∧ c = 15 ∧ n = 8) ∨ (a = 8 ∧ c = 16 ∧ n = 8) ∨ (a = 9 ∧ c = 17 ∧ n = 8) ∨ (a = 10 ∧ c = 18 ∧ n = 8) ∨ (a = 11 ∧ c = 19 ∧ n = 120) ∨ (a = 13 ∧ c = 21 ∧ n = 8) ∨ (a = 14 ∧ c = 22 ∧ n = 8) ∨ (a = 15 ∧ c = 23 ∧ n = 8) ∨ (a = 16 ∧ c = 24 ∧ n = 8) ∨ (a = 17 ∧ c = 25 ∧ n = 8) ∨ (a = 18 ∧ c = 26 ∧ n = 8) ∨ (a = 19 ∧ c = 27 ∧ n = 120) ∨ (a = 13 ∧ c = 29 ∧ n = 8) ∨ (a = 14 ∧ c = 30 ∧ n = 8) ∨ (a = 15 ∧ c = 31 ∧ n = 8) ∨ (a = 16 ∧ c = 32 ∧ n = 8) ∨ (a = 17 ∧ c = 33 ∧ n = 8) ∨ (a = 18 ∧ c = 34 ∧ n = 8) ∨ (a = 19 ∧ c = 35 ∧ n = 120) ∨ (a = 21 ∧ c = 13 ∧ n = 8) ∨ (a = 22 ∧ c = 14 ∧ n = 8) ∨ (a = 23 ∧ c = 15 ∧ n = 8) ∨ (a = 24 ∧ c = 16 ∧ n = 8) ∨ (a = 25 ∧ c = 17 ∧ n = 8) ∨ (a = 26 ∧ c = 18 ∧ n = 8) ∨ (a = 27 ∧ c = 19 ∧ n = 120) ∨ (a = 29 ∧ c = 13 ∧ n = 8) ∨ (a = 30 ∧ c = 14 ∧ n = 8) ∨ (a = 31 ∧ c = 15 ∧ n = 8) ∨ (a = 32 ∧ c = 16 ∧ n = 8) ∨ (a = 33 ∧ c = 17 ∧ n = 8) ∨ (a = 34 ∧ c = 18 ∧ n = 8) ∨ (a = 35 ∧ c = 19 ∧ n = 120) ∨ (a = 45 ∧ c = 47 ∧ n = 6) ∨ (a = 45 ∧ c = 49 ∧ n = 6) ∨ (a = 47 ∧ c = 45 ∧ n = 6) ∨ (a = 49 ∧ c = 45 ∧ n = 6)
set_option maxHeartbeats 4000000 in
set_option maxRecDepth 100000 in
/-- C.copyRow -/
theorem s_49 {a c : Nat} {n : Int} (hp : zCr a c n) {h : zM} {Q : zQ} (hq : Q none (zx_cp h a 0 c 0 n)) : zR 49 [.inr (.inr a), .inr (.inr c)] h Q := by
  rcases hp with ⟨rfl, rfl, rfl⟩ | ⟨rfl, rfl, rfl⟩ | ⟨rfl, rfl, rfl⟩ | ⟨rfl, rfl, rfl⟩ | ⟨rfl, rfl, rfl⟩ | ⟨rfl, rfl, rfl⟩ | ⟨rfl, rfl, rfl⟩ | ⟨rfl, rfl, rfl⟩ | ⟨rfl, rfl, rfl⟩ | ⟨rfl, rfl, rfl⟩ | ⟨rfl, rfl, rfl⟩ | ⟨rfl, rfl, rfl⟩ | ⟨rfl, rfl, rfl⟩ | ⟨rfl, rfl, rfl⟩ | ⟨rfl, rfl, rfl⟩ | ⟨rfl, rfl, rfl⟩ | ⟨rfl, rfl, rfl⟩ | ⟨rfl, rfl, rfl⟩ | ⟨rfl, rfl, rfl⟩ | ⟨rfl, rfl, rfl⟩ | ⟨rfl, rfl, rfl⟩ | ⟨rfl, rfl, rfl⟩ | ⟨rfl, rfl, rfl⟩ | ⟨rfl, rfl, rfl⟩ | ⟨rfl, rfl, rfl⟩ | ⟨rfl, rfl, rfl⟩ | ⟨rfl, rfl, rfl⟩ | ⟨rfl, rfl, rfl⟩ | ⟨rfl, rfl, rfl⟩ | ⟨rfl, rfl, rfl⟩ | ⟨rfl, rfl, rfl⟩ | ⟨rfl, rfl, rfl⟩ | ⟨rfl, rfl, rfl⟩ | ⟨rfl, rfl, rfl⟩ | ⟨rfl, rfl, rfl⟩ | ⟨rfl, rfl, rfl⟩ | ⟨rfl, rfl, rfl⟩ | ⟨rfl, rfl, rfl⟩ | ⟨rfl, rfl, rfl⟩
  all_goals
    refine zx_met0 zk_49 (Or.inl rfl) (Nat.le_of_ble_eq_true rfl) 1000 (fun hok hM => ?_)
    refine And.intro (⟨rfl, rfl, by decide, by decide, by decide +kernel, by decide +kernel, by decide +kernel⟩) ?_
    exact hq
set_option maxHeartbeats 4000000 in
set_option maxRecDepth 100000 in
/-- Web.copyFrom -/
theorem s_201 {b c : Nat} (hb : zCw b c) {h : zM} {Q : zQ} (hq : ∀ h2, zF (fun r _ => Nat.ble c r && Nat.ble r (c + 7)) h h2 → h2 c 7 = h b 7 → h2 c 8 = h b 8 → (∀ (w : Nat) (k : Int), w < 6 → 0 ≤ k → k < 8 → h2 (c + 1 + w) k = h (b + 1 + w) k) → (∀ k, 0 ≤ k → k < 120 → h2 (c + 7) k = h (b + 7) k) → Q none h2) : zR 201 [.inr (.inr c), .inr (.inr b)] h Q := by
  rcases hb with ⟨rfl, rfl⟩ | ⟨rfl, rfl⟩ | ⟨rfl, rfl⟩ | ⟨rfl, rfl⟩ | ⟨rfl, rfl⟩
  all_goals
    refine zx_met0 zk_201 (Or.inr ⟨_, _, rfl, rfl⟩) (Nat.le_of_ble_eq_true rfl) 1000 (fun hok hM => ?_)
    refine s_49 (n := 8) (by simp [zCr]) ?_
    refine s_49 (n := 8) (by simp [zCr]) ?_
    refine s_49 (n := 8) (by simp [zCr]) ?_
    refine s_49 (n := 8) (by simp [zCr]) ?_
    refine s_49 (n := 8) (by simp [zCr]) ?_
    refine s_49 (n := 8) (by simp [zCr]) ?_
    refine s_49 (n := 120) (by simp [zCr]) ?_
    refine hq _ ?_ rfl rfl ?_ ?_
    · refine (((((((zF.st ?_ rfl).cp fun _ => rfl).cp fun _ => rfl).cp fun _ => rfl).cp fun _ => rfl).cp fun _ => rfl).cp fun _ => rfl).cp fun _ => rfl
      exact zF.rf.st rfl
    · intro w k hw h0 h1
      have hw2 : w = 0 ∨ w = 1 ∨ w = 2 ∨ w = 3 ∨ w = 4 ∨ w = 5 := by omega
      rcases hw2 with rfl | rfl | rfl | rfl | rfl | rfl <;> simp [zx_cp, zx_st, h0, h1]
    · intro k h0 h1
      simp [zx_cp, zx_st, h0, h1]
set_option maxHeartbeats 4000000 in
set_option maxRecDepth 100000 in
/-- Program.forgetGiven -/
theorem s_160 {h : zM} {Q : zQ} (hq : ∀ h2, zF (fun r _ => Nat.beq r 44 || Nat.beq r 45) h h2 → h2 44 2 = 1 → (∀ k, 0 ≤ k → k < 6 → h2 45 k = -4) → Q none h2) : zR 160 [.inr (.inr 44)] h Q := by
  have l45 : zx_ln 45 = (6 : Int) := rfl
  refine zx_met zk_160 (Or.inr ⟨_, _, rfl, rfl⟩) (Nat.le_of_ble_eq_true rfl) (fun _ => false) 1000 (fun m i L S h2 => i = 2 ∧ S = [] ∧ ∃ k : Nat, L = [some (.inr (.inr 44)), some (.inl (k : Int))] ∧ k ≤ 6 ∧ m = 6 - k ∧ zF (fun r _ => Nat.beq r 44 || Nat.beq r 45) h h2 ∧ ∀ i, 0 ≤ i → i < (k : Int) → h2 45 i = -4) (fun hok hM => ?_) (fun hok hM => ?_)
  · exact ⟨6, rfl, rfl, 0, rfl, by omega, rfl, zF.rf, fun i h0 h1 => by omega⟩
  · rintro m i L S h2 hM2 ⟨rfl, rfl, k, rfl, hk, hm, hF, e3⟩
    constructor
    · intro c1
      refine And.intro (by show 0 ≤ _ ∧ _ < (6 : Int); omega) ?_
      refine And.intro (by omega) ?_
      refine ⟨6 - (k + 1), by omega, rfl, rfl, k + 1, rfl, by omega, rfl, hF.st rfl, fun i h0 h1 => ?_⟩
      by_cases hi : i = (k : Int)
      · rw [hi]; exact zst_eq _ _ _ _
      · rw [zst_ne hi]; exact e3 i h0 (by omega)
    · intro c1
      refine hq _ (hF.st rfl) (zst_eq _ _ _ _) (fun i h0 h1 => ?_)
      rw [zst_nr (by decide)]
      exact e3 i h0 (by omega)
/-- the GIVEN variables, as bits -/
def zgb (g : Int → Int) : Int := zit (fun v s => if g v < 0 then s else zx_or s (zx_shl 1 v)) 6 0
set_option maxHeartbeats 4000000 in
set_option maxRecDepth 100000 in
/-- Program.givenBits -/
theorem s_161 {h : zM} {Q : zQ} (hq : Q (some (.inl (zgb (h 45)))) h) : zR 161 [.inr (.inr 44)] h Q := by
  have l45 : zx_ln 45 = (6 : Int) := rfl
  refine zx_met zk_161 (Or.inr ⟨_, _, rfl, rfl⟩) (Nat.le_of_ble_eq_true rfl) (fun _ => false) 1000 (fun m i L S h2 => i = 4 ∧ S = [] ∧ h2 = h ∧ ∃ k : Nat, L = [some (.inr (.inr 44)), some (.inl (zit (fun v s => if h 45 v < 0 then s else zx_or s (zx_shl 1 v)) k 0)), some (.inl (k : Int))] ∧ k ≤ 6 ∧ m = 6 - k) (fun hok hM => ?_) (fun hok hM => ?_)
  · exact ⟨6, rfl, rfl, rfl, 0, rfl, by omega, rfl⟩
  · rintro m i L S h2 hM2 ⟨rfl, rfl, rfl, k, rfl, hk, hm⟩
    constructor
    · intro c1
      refine And.intro (by show 0 ≤ _ ∧ _ < (6 : Int); omega) ?_
      constructor
      · intro c2
        refine And.intro (by omega) ?_
        refine ⟨6 - (k + 1), by omega, rfl, rfl, rfl, k + 1, ?_, by omega, rfl⟩
        first | (rw [zit, if_pos (by assumption)]; rfl) | (rw [zit, if_neg (by assumption)]; rfl)
      · intro c2
        refine And.intro (by omega) ?_
        refine ⟨6 - (k + 1), by omega, rfl, rfl, rfl, k + 1, ?_, by omega, rfl⟩
        first | (rw [zit, if_pos (by assumption)]; rfl) | (rw [zit, if_neg (by assumption)]; rfl)
    · intro c1
      have hk6 : k = 6 := by omega
      subst hk6
      exact hq
def zwb (b : Nat) : Nat := if b = 44 then 12 else if b = 46 then 20 else 28
set_option maxHeartbeats 4000000 in
set_option maxRecDepth 100000 in
/-- Program.copyFrom -/
theorem s_162 {b c : Nat} (hb : zCg b c) {h : zM} {Q : zQ} (hq : ∀ h2, zF (fun r _ => (Nat.ble (zwb c) r && Nat.ble r (zwb c + 7)) || Nat.beq r c || Nat.beq r (c + 1)) h h2 → h2 (zwb c) 7 = h (zwb b) 7 → h2 (zwb c) 8 = h (zwb b) 8 → (∀ (w : Nat) (k : Int), w < 6 → 0 ≤ k → k < 8 → h2 (zwb c + 1 + w) k = h (zwb b + 1 + w) k) → (∀ k, 0 ≤ k → k < 120 → h2 (zwb c + 7) k = h (zwb b + 7) k) → (∀ k, 0 ≤ k → k < 6 → h2 (c + 1) k = h (b + 1) k) → h2 c 2 = h b 2 → Q none h2) : zR 162 [.inr (.inr c), .inr (.inr b)] h Q := by
  rcases hb with ⟨rfl, rfl⟩ | ⟨rfl, rfl⟩ | ⟨rfl, rfl⟩ | ⟨rfl, rfl⟩
  all_goals
    refine zx_met0 zk_162 (Or.inr ⟨_, _, rfl, rfl⟩) (Nat.le_of_ble_eq_true rfl) 1000 (fun hok hM => ?_)
    refine s_201 (by unfold zCw; omega) (fun h2 hF e7 e8 eb es => ?_)
    refine s_49 (n := 6) (by simp [zCr]) ?_
    refine hq _ ?_ e7 e8 (fun w k hw h0 h1 => ?_) (fun k h0 h1 => ?_) (fun k h0 h1 => ?_) ?_
    · refine zF.st (zF.cp (hF.mono ?_) fun _ => rfl) rfl
      intro r k hf
      simp only [Bool.or_eq_false_iff] at hf
      exact hf.1.1
    · have := eb w k hw h0 h1
      rw [zst_nr (by simp [zwb]; omega)]
      refine Eq.trans ?_ this
      exact if_neg (by simp [zwb]; omega)
    · exact es k h0 h1
    · rw [zst_nr (by decide)]
      have := hF 45 k rfl
      simp [zx_cp, h0, h1]
      exact hF _ k rfl
    · rw [zst_eq]
      exact hF _ 2 rfl
set_option maxHeartbeats 4000000 in
set_option maxRecDepth 100000 in
/-- Program.become -/
theorem s_159 {h : zM} {Q : zQ} (hq : ∀ h2, zF (fun r _ => (Nat.ble 12 r && Nat.ble r 19) || Nat.beq r 44 || Nat.beq r 45) h h2 → h2 12 7 = h 4 7 → h2 12 8 = h 4 8 → (∀ (w : Nat) (k : Int), w < 6 → 0 ≤ k → k < 8 → h2 (13 + w) k = h (5 + w) k) → (∀ k, 0 ≤ k → k < 120 → h2 19 k = h 11 k) → h2 44 2 = 1 → (∀ k, 0 ≤ k → k < 6 → h2 45 k = -4) → Q none h2) : zR 159 [.inr (.inr 44), .inr (.inr 4)] h Q := by
  refine zx_met0 zk_159 (Or.inr ⟨_, _, rfl, rfl⟩) (Nat.le_of_ble_eq_true rfl) 1000 (fun hok hM => ?_)
  refine s_201 (by unfold zCw; omega) (fun h2 hF e7 e8 eb es => ?_)
  refine s_160 (fun h3 hG eW eg => ?_)
  refine hq _ ?_ ((hG 12 7 rfl).trans e7) ((hG 12 8 rfl).trans e8) (fun w k hw h0 h1 => ?_) (fun k h0 h1 => (hG 19 k rfl).trans (es k h0 h1)) eW eg
  · refine (hF.mono ?_).tr (hG.mono ?_)
    · intro r k hf
      simp only [Bool.or_eq_false_iff] at hf
      exact hf.1.1
    · intro r k hf
      simp only [Bool.or_eq_false_iff] at hf ⊢
      exact ⟨hf.1.2, hf.2⟩
  · refine Eq.trans (hG _ k ?_) (eb w k hw h0 h1)
    have hw2 : w = 0 ∨ w = 1 ∨ w = 2 ∨ w = 3 ∨ w = 4 ∨ w = 5 := by omega
    rcases hw2 with rfl | rfl | rfl | rfl | rfl | rfl <;> rfl
