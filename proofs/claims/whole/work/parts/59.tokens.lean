/-! The reader: bytes and tokens -/
/-- byte p of a tape of n bytes t -/
def zbt (n : Nat) (t : Nat → Int) (p : Nat) : Int := if p < n then t p else -4
/-- the class's tape -/
def zTp (h : zM) (n : Nat) (t : Nat → Int) : Prop := h 2 1 = (n : Int) ∧ n ≤ 320 ∧ ∀ i : Nat, i < n → h 3 (i : Int) = t i ∧ 0 ≤ t i ∧ t i ≤ 127
/-- the reference's tape -/
def zTq (h : zM) (n : Nat) (t : Nat → Int) : Prop := h 81 2 = (n : Int) ∧ n ≤ 320 ∧ ∀ i : Nat, i < n → h 83 (i : Int) = t i ∧ 0 ≤ t i ∧ t i ≤ 127
theorem zbt_b {n : Nat} {t : Nat → Int} (ht : ∀ i : Nat, i < n → 0 ≤ t i ∧ t i ≤ 127) (p : Nat) : -4 ≤ zbt n t p ∧ zbt n t p ≤ 127 := by
  unfold zbt
  split
  · have := ht p (by assumption)
    omega
  · omega
theorem s_190t {h : zM} {n : Nat} {t : Nat → Int} (ht : zTp h n t) {x : Int} {p : Nat} (hx : x = (p : Int)) {Q : zQ} (hq : Q (some (.inl (zbt n t p))) h) : zR 190 [.inr (.inr 2), .inl x] h Q := by
  obtain ⟨a, b, c⟩ := ht
  subst hx
  refine s_190 (by omega) (fun q => ?_) (fun q => ?_)
  · rw [(c p (by omega)).1]
    rw [zbt, if_pos (by omega)] at hq
    exact hq
  · rw [zbt, if_neg (by omega)] at hq
    exact hq
theorem s_53t {h : zM} {n : Nat} {t : Nat → Int} (ht : zTq h n t) {x : Int} {p : Nat} (hx : x = (p : Int)) {Q : zQ} (hq : Q (some (.inl (zbt n t p))) h) : zR 53 [.inr (.inr 81), .inl x] h Q := by
  obtain ⟨a, b, c⟩ := ht
  subst hx
  refine s_53 (by omega) (by omega) (fun q => ?_) (fun q => ?_)
  · rw [(c p (by omega)).1]
    rw [zbt, if_pos (by omega)] at hq
    exact hq
  · rw [zbt, if_neg (by omega)] at hq
    exact hq
/-- the sort of a byte -/
def zsr (c : Int) : Int := if c = -4 then 0 else if 97 ≤ c ∧ c ≤ 122 then 1 else if 48 ≤ c ∧ c ≤ 57 then 2 else if c = 59 then 3 else 4
def zrf (f : Int → Bool) (b : Nat → Int) : Nat → Nat → Nat
  | 0, p => p
  | k + 1, p => if f (b p) = true then zrf f b k (p + 1) else p
/-- as far as f holds -/
def zru (f : Int → Bool) (n : Nat) (t : Nat → Int) (p : Nat) : Nat := zrf f (zbt n t) (n - p) p
theorem zru_t {f : Int → Bool} {n : Nat} {t : Nat → Int} {p : Nat} (hp : p < n) (hf : f (zbt n t p) = true) : zru f n t p = zru f n t (p + 1) := by
  unfold zru
  rw [show n - p = (n - (p + 1)) + 1 by omega, zrf, if_pos hf]
theorem zru_f {f : Int → Bool} {n : Nat} {t : Nat → Int} {p : Nat} (hf : f (zbt n t p) = false) : zru f n t p = p := by
  unfold zru
  cases e : n - p
  · rfl
  · rw [zrf, if_neg (by rw [hf]; decide)]
theorem zru_n {f : Int → Bool} {n : Nat} {t : Nat → Int} {p : Nat} (hp : n ≤ p) : zru f n t p = p := by
  unfold zru
  rw [show n - p = 0 by omega]
  rfl
theorem zrf_le {f : Int → Bool} {b : Nat → Int} : ∀ k p, p ≤ zrf f b k p ∧ zrf f b k p ≤ p + k
  | 0, p => ⟨Nat.le_refl _, Nat.le_refl _⟩
  | k + 1, p => by
    rw [zrf]
    split
    · have := zrf_le (f := f) (b := b) k (p + 1)
      omega
    · omega
theorem zru_le {f : Int → Bool} {n : Nat} {t : Nat → Int} {p : Nat} (hp : p ≤ n) : p ≤ zru f n t p ∧ zru f n t p ≤ n := by
  have := zrf_le (f := f) (b := zbt n t) (n - p) p
  unfold zru
  omega
def zbl : Int → Bool := fun c => decide (c = 32)
def zss (k : Int) : Int → Bool := fun c => decide (zsr c = k)
theorem zbt_lt {n : Nat} {t : Nat → Int} {p : Nat} (h : ¬ zbt n t p = -4) : p < n := by
  apply Nat.lt_of_not_le
  intro q
  apply h
  rw [zbt, if_neg (by omega)]
/-- a number's worth -/
def ztn (b : Nat → Int) (s e : Nat) : Int := if e = s + 1 then b s - 48 else (b s - 48) * 10 + (b (s + 1) - 48)
/-- a token: its start, its end, its sort, its number -/
abbrev zTk : Type := Nat × Nat × Int × Int
def zts (n : Nat) (t : Nat → Int) (p : Nat) : Nat := zru zbl n t p
def zte (n : Nat) (t : Nat → Int) (s : Nat) : Nat := if zsr (zbt n t s) = 1 ∨ zsr (zbt n t s) = 2 then zru (zss (zsr (zbt n t s))) n t s else if zsr (zbt n t s) = 3 then s + 1 else s
def ztk1 (n : Nat) (t : Nat → Int) (s : Nat) : (Int × Nat) ⊕ zTk := if zsr (zbt n t s) = 4 ∨ (zsr (zbt n t s) = 2 ∧ s + 2 < zte n t s) then .inl (1, s) else .inr (s, zte n t s, zsr (zbt n t s), if zsr (zbt n t s) = 2 then ztn (zbt n t) s (zte n t s) else 0)
/-- the token from p on, or a fault -/
def ztk (n : Nat) (t : Nat → Int) (p : Nat) : (Int × Nat) ⊕ zTk := ztk1 n t (zts n t p)
/-- the class's token -/
def zTc (h : zM) (k : zTk) : Prop := h 1 5 = (k.1 : Int) ∧ h 1 6 = (k.2.1 : Int) ∧ h 1 4 = k.2.2.1 ∧ (k.2.2.1 = 2 → h 1 7 = k.2.2.2)
def zTf : Nat → Int → Bool := fun r k => Nat.beq r 1 && decide (2 ≤ k) && decide (k ≤ 7)
theorem zwr_id {x : Int} (h : -2147483648 ≤ x ∧ x < 2147483648) : zx_wr x = x := by
  have e : zx_wr x = Int.bmod x 4294967296 := by
    unfold zx_wr
    rw [Int32.toInt_ofInt]
  rw [e]
  unfold Int.bmod
  simp only
  split <;> omega
theorem zTp.fr {h h2 : zM} {n : Nat} {t : Nat → Int} (ht : zTp h n t) (hF : zF zTf h h2) : zTp h2 n t := ⟨(hF _ _ rfl).trans ht.1, ht.2.1, fun i hi => ⟨(hF _ _ rfl).trans (ht.2.2 i hi).1, (ht.2.2 i hi).2⟩⟩
set_option maxHeartbeats 4000000 in
set_option maxRecDepth 100000 in
/-- Reader.refuse -/
theorem s_164 {c p : Int} {h : zM} {Q : zQ} (hq : Q (some (.inl 0)) (zx_st (zx_st h 1 2 c) 1 3 p)) : zR 164 [.inr (.inr 1), .inl c, .inl p] h Q := by
  refine zx_met0 zk_164 (Or.inr ⟨_, _, rfl, rfl⟩) (Nat.le_of_ble_eq_true rfl) 1000 (fun hok hM => ?_)
  refine And.intro (by first | exact Or.inl rfl | exact Or.inr rfl | omega) ?_
  exact hq
set_option maxHeartbeats 4000000 in
set_option maxRecDepth 100000 in
/-- Reader.sortOf -/
theorem s_166 {c : Int} {h : zM} {Q : zQ} (hq : Q (some (.inl (zsr c))) h) : zR 166 [.inl c] h Q := by
  unfold zsr at hq
  refine zx_met0 zk_166 (Or.inl rfl) (Nat.le_of_ble_eq_true rfl) 1000 (fun hok hM => ?_)
  constructor
  · intro c1
    first
    | (rw [if_pos (by omega)] at hq; exact hq)
    | (rw [if_neg (by omega), if_pos (by omega)] at hq; exact hq)
    | (rw [if_neg (by omega), if_neg (by omega), if_pos (by omega)] at hq; exact hq)
    | (rw [if_neg (by omega), if_neg (by omega), if_neg (by omega), if_pos (by omega)] at hq; exact hq)
    | (rw [if_neg (by omega), if_neg (by omega), if_neg (by omega), if_neg (by omega)] at hq; exact hq)
  · intro c1
    constructor
    · intro c2
      constructor
      · intro c3
        constructor
        · intro c4
          first
          | (rw [if_pos (by omega)] at hq; exact hq)
          | (rw [if_neg (by omega), if_pos (by omega)] at hq; exact hq)
          | (rw [if_neg (by omega), if_neg (by omega), if_pos (by omega)] at hq; exact hq)
          | (rw [if_neg (by omega), if_neg (by omega), if_neg (by omega), if_pos (by omega)] at hq; exact hq)
          | (rw [if_neg (by omega), if_neg (by omega), if_neg (by omega), if_neg (by omega)] at hq; exact hq)
        · intro c4
          first
          | (rw [if_pos (by omega)] at hq; exact hq)
          | (rw [if_neg (by omega), if_pos (by omega)] at hq; exact hq)
          | (rw [if_neg (by omega), if_neg (by omega), if_pos (by omega)] at hq; exact hq)
          | (rw [if_neg (by omega), if_neg (by omega), if_neg (by omega), if_pos (by omega)] at hq; exact hq)
          | (rw [if_neg (by omega), if_neg (by omega), if_neg (by omega), if_neg (by omega)] at hq; exact hq)
      · intro c3
        constructor
        · intro c5
          constructor
          · intro c6
            first
            | (rw [if_pos (by omega)] at hq; exact hq)
            | (rw [if_neg (by omega), if_pos (by omega)] at hq; exact hq)
            | (rw [if_neg (by omega), if_neg (by omega), if_pos (by omega)] at hq; exact hq)
            | (rw [if_neg (by omega), if_neg (by omega), if_neg (by omega), if_pos (by omega)] at hq; exact hq)
            | (rw [if_neg (by omega), if_neg (by omega), if_neg (by omega), if_neg (by omega)] at hq; exact hq)
          · intro c6
            first
            | (rw [if_pos (by omega)] at hq; exact hq)
            | (rw [if_neg (by omega), if_pos (by omega)] at hq; exact hq)
            | (rw [if_neg (by omega), if_neg (by omega), if_pos (by omega)] at hq; exact hq)
            | (rw [if_neg (by omega), if_neg (by omega), if_neg (by omega), if_pos (by omega)] at hq; exact hq)
            | (rw [if_neg (by omega), if_neg (by omega), if_neg (by omega), if_neg (by omega)] at hq; exact hq)
        · intro c5
          first
          | (rw [if_pos (by omega)] at hq; exact hq)
          | (rw [if_neg (by omega), if_pos (by omega)] at hq; exact hq)
          | (rw [if_neg (by omega), if_neg (by omega), if_pos (by omega)] at hq; exact hq)
          | (rw [if_neg (by omega), if_neg (by omega), if_neg (by omega), if_pos (by omega)] at hq; exact hq)
          | (rw [if_neg (by omega), if_neg (by omega), if_neg (by omega), if_neg (by omega)] at hq; exact hq)
    · intro c2
      constructor
      · intro c7
        constructor
        · intro c8
          constructor
          · intro c9
            first
            | (rw [if_pos (by omega)] at hq; exact hq)
            | (rw [if_neg (by omega), if_pos (by omega)] at hq; exact hq)
            | (rw [if_neg (by omega), if_neg (by omega), if_pos (by omega)] at hq; exact hq)
            | (rw [if_neg (by omega), if_neg (by omega), if_neg (by omega), if_pos (by omega)] at hq; exact hq)
            | (rw [if_neg (by omega), if_neg (by omega), if_neg (by omega), if_neg (by omega)] at hq; exact hq)
          · intro c9
            first
            | (rw [if_pos (by omega)] at hq; exact hq)
            | (rw [if_neg (by omega), if_pos (by omega)] at hq; exact hq)
            | (rw [if_neg (by omega), if_neg (by omega), if_pos (by omega)] at hq; exact hq)
            | (rw [if_neg (by omega), if_neg (by omega), if_neg (by omega), if_pos (by omega)] at hq; exact hq)
            | (rw [if_neg (by omega), if_neg (by omega), if_neg (by omega), if_neg (by omega)] at hq; exact hq)
        · intro c8
          constructor
          · intro c10
            constructor
            · intro c11
              first
              | (rw [if_pos (by omega)] at hq; exact hq)
              | (rw [if_neg (by omega), if_pos (by omega)] at hq; exact hq)
              | (rw [if_neg (by omega), if_neg (by omega), if_pos (by omega)] at hq; exact hq)
              | (rw [if_neg (by omega), if_neg (by omega), if_neg (by omega), if_pos (by omega)] at hq; exact hq)
              | (rw [if_neg (by omega), if_neg (by omega), if_neg (by omega), if_neg (by omega)] at hq; exact hq)
            · intro c11
              first
              | (rw [if_pos (by omega)] at hq; exact hq)
              | (rw [if_neg (by omega), if_pos (by omega)] at hq; exact hq)
              | (rw [if_neg (by omega), if_neg (by omega), if_pos (by omega)] at hq; exact hq)
              | (rw [if_neg (by omega), if_neg (by omega), if_neg (by omega), if_pos (by omega)] at hq; exact hq)
              | (rw [if_neg (by omega), if_neg (by omega), if_neg (by omega), if_neg (by omega)] at hq; exact hq)
          · intro c10
            first
            | (rw [if_pos (by omega)] at hq; exact hq)
            | (rw [if_neg (by omega), if_pos (by omega)] at hq; exact hq)
            | (rw [if_neg (by omega), if_neg (by omega), if_pos (by omega)] at hq; exact hq)
            | (rw [if_neg (by omega), if_neg (by omega), if_neg (by omega), if_pos (by omega)] at hq; exact hq)
            | (rw [if_neg (by omega), if_neg (by omega), if_neg (by omega), if_neg (by omega)] at hq; exact hq)
      · intro c7
        first
        | (rw [if_pos (by omega)] at hq; exact hq)
        | (rw [if_neg (by omega), if_pos (by omega)] at hq; exact hq)
        | (rw [if_neg (by omega), if_neg (by omega), if_pos (by omega)] at hq; exact hq)
        | (rw [if_neg (by omega), if_neg (by omega), if_neg (by omega), if_pos (by omega)] at hq; exact hq)
        | (rw [if_neg (by omega), if_neg (by omega), if_neg (by omega), if_neg (by omega)] at hq; exact hq)
set_option maxHeartbeats 4000000 in
set_option maxRecDepth 100000 in
/-- Reader.advance -/
theorem s_165 {h : zM} {n : Nat} {t : Nat → Int} (ht : zTp h n t) {p : Nat} (hp : p ≤ n) (h6 : h 1 6 = (p : Int)) {Q : zQ} (h1 : ∀ k, ztk n t p = .inr k → ∀ h2, zF zTf h h2 → h2 1 2 = h 1 2 → h2 1 3 = h 1 3 → zTc h2 k → Q (some (.inl 1)) h2) (h0 : ∀ e, ztk n t p = .inl e → ∀ h2, zF zTf h h2 → h2 1 2 = e.1 → h2 1 3 = (e.2 : Int) → Q (some (.inl 0)) h2) : zR 165 [.inr (.inr 1)] h Q := by
  have n320 := ht.2.1
  have hsl := zru_le (f := zbl) (t := t) hp
  obtain ⟨s, hs⟩ : ∃ s, s = zts n t p := ⟨_, rfl⟩
  have hsl : p ≤ s ∧ s ≤ n := by rw [hs]; exact hsl
  obtain ⟨k, hk⟩ : ∃ k, k = zsr (zbt n t s) := ⟨_, rfl⟩
  have hk04 : 0 ≤ k ∧ k ≤ 4 := by
    rw [hk]
    unfold zsr
    repeat' split
    all_goals omega
  have hk0 : ¬ k = 0 → s < n := by
    intro q
    apply zbt_lt
    intro z
    rw [hk, z] at q
    exact q rfl
  have hzk : ztk n t p = ztk1 n t s := by rw [hs]; rfl
  rw [hzk] at h1 h0
  have hbb := zbt_b (fun i hi => (ht.2.2 i hi).2)
  refine zx_met zk_165 (Or.inr ⟨_, _, rfl, rfl⟩) (Nat.le_of_ble_eq_true rfl) (fun x => Nat.beq x 20 || Nat.beq x 32 || Nat.beq x 52) 1000 (fun m j L S h2 => (j = 2 ∧ S = [] ∧ ∃ (i7 : Nat) (q2 : Option zV), L = [some (.inr (.inr 1)), some (.inl (i7 : Int)), q2] ∧ p + i7 ≤ n ∧ m = 5000 - i7 ∧ zF zTf h h2 ∧ h2 1 2 = h 1 2 ∧ h2 1 3 = h 1 3 ∧ h2 1 6 = ((p + i7 : Nat) : Int) ∧ zru zbl n t (p + i7) = s) ∨
    (j = 20 ∧ S = [] ∧ ∃ (q1 q2 : Option zV), L = [some (.inr (.inr 1)), q1, q2] ∧ m = 4000 ∧ zF zTf h h2 ∧ h2 1 2 = h 1 2 ∧ h2 1 3 = h 1 3 ∧ h2 1 6 = (s : Int)) ∨
    (j = 32 ∧ S = [] ∧ ∃ (q1 q2 : Option zV), L = [some (.inr (.inr 1)), q1, q2] ∧ m = 3000 ∧ zF zTf h h2 ∧ h2 1 2 = h 1 2 ∧ h2 1 3 = h 1 3 ∧ h2 1 6 = (s : Int) ∧ h2 1 5 = (s : Int) ∧ h2 1 4 = k) ∨
    (j = 52 ∧ S = [] ∧ ∃ (q1 q2 : Option zV), L = [some (.inr (.inr 1)), q1, q2] ∧ m = 2000 ∧ zF zTf h h2 ∧ h2 1 2 = h 1 2 ∧ h2 1 3 = h 1 3 ∧ ¬ k = 4 ∧ h2 1 6 = (if k = 3 then (s : Int) + 1 else (s : Int)) ∧ h2 1 5 = (s : Int) ∧ h2 1 4 = k) ∨
    (j = 69 ∧ S = [] ∧ ∃ (i7 e7 : Nat) (a7 : Int), L = [some (.inr (.inr 1)), some (.inl a7), some (.inl (i7 : Int))] ∧ m = 1000 - i7 ∧ zF zTf h h2 ∧ h2 1 2 = h 1 2 ∧ h2 1 3 = h 1 3 ∧ ¬ k = 4 ∧ (a7 = 1 ∧ (k = 1 ∨ k = 2) ∧ e7 = s + i7 ∧ zru (zss k) n t e7 = zru (zss k) n t s ∨ a7 = 0 ∧ i7 = 0 ∧ (k = 0 ∧ e7 = s ∨ k = 3 ∧ e7 = s + 1)) ∧ e7 ≤ n ∧ h2 1 6 = (e7 : Int) ∧ h2 1 5 = (s : Int) ∧ h2 1 4 = k ∧ (i7 = 0 → h2 1 7 = 0) ∧ (k = 2 → (∀ q, q < i7 → 48 ≤ zbt n t (s + q) ∧ zbt n t (s + q) ≤ 57) ∧ (i7 = 1 → h2 1 7 = zbt n t s - 48) ∧ (i7 = 2 → h2 1 7 = (zbt n t s - 48) * 10 + (zbt n t (s + 1) - 48))))) (fun hok hM => ?_) (fun hok hM => ?_)
  · exact ⟨_, Or.inl ⟨rfl, rfl, 0, _, rfl, by omega, rfl, zF.rf, rfl, rfl, h6, hs.symm⟩⟩
  · rintro n0 i0 L S h2 hM2 (hI | hI | hI | hI | hI)
    · obtain ⟨rfl, rfl, i7, q2, rfl, hi, hm, hF, g2, g3, g6, hz⟩ := hI
      have ht2 := ht.fr hF
      constructor
      · intro c1
        refine s_190t ht2 (p := p + i7) g6 ?_
        constructor
        · intro c2
          refine And.intro (by first | omega | (simp only [zx_st]; simp; omega)) ?_
          refine And.intro (by first | omega | (simp only [zx_st]; simp; omega)) ?_
          have hbl : zbt n t (p + i7) = 32 := by assumption
          have hlt : p + i7 < n := zbt_lt (t := t) (by rw [hbl]; decide)
          exact ⟨5000 - (i7 + 1), by omega, Or.inl ⟨rfl, rfl, i7 + 1, _, rfl, by omega, rfl, hF.st rfl, g2, g3, (zst_eq _ _ _ _).trans (by omega), (zru_t hlt (by unfold zbl; rw [hbl]; rfl)).symm.trans hz⟩⟩
        · intro c2
          have hst : p + i7 = s := by
            first
            | (rw [zru_n (by omega)] at hz; exact hz)
            | (rw [zru_f (by unfold zbl; exact decide_eq_false (by assumption))] at hz; exact hz)
          exact ⟨4000, by omega, Or.inr (Or.inl ⟨rfl, rfl, _, _, rfl, rfl, hF, g2, g3, by omega⟩)⟩
      · intro c1
        have hst : p + i7 = s := by
          first
          | (rw [zru_n (by omega)] at hz; exact hz)
          | (rw [zru_f (by unfold zbl; exact decide_eq_false (by assumption))] at hz; exact hz)
        exact ⟨4000, by omega, Or.inr (Or.inl ⟨rfl, rfl, _, _, rfl, rfl, hF, g2, g3, by omega⟩)⟩
    · obtain ⟨rfl, rfl, q1, q2, rfl, hm, hF, g2, g3, g6⟩ := hI
      have ht2 := ht.fr hF
      refine s_190t (h := zx_st h2 1 5 (h2 1 6)) (ht2.fr (zF.rf.st rfl)) (p := s) ((zst_eq _ _ _ _).trans g6) ?_
      refine s_166 ?_
      exact ⟨3000, by omega, Or.inr (Or.inr (Or.inl ⟨rfl, rfl, _, _, rfl, rfl, (hF.st rfl).st rfl, g2, g3, g6, (zst_ne (by decide)).trans ((zst_eq _ _ _ _).trans g6), (zst_eq _ _ _ _).trans hk.symm⟩))⟩
    · obtain ⟨rfl, rfl, q1, q2, rfl, hm, hF, g2, g3, g6, g5, g4⟩ := hI
      constructor
      · intro c3
        refine s_164 ?_
        refine And.intro (by first | exact Or.inl rfl | exact Or.inr rfl | omega) ?_
        first
        | (refine h0 (1, s) ?_ _ ((hF.st rfl).st rfl) ?_ ?_
           · unfold ztk1
             rw [← hk]
             first
             | (rw [if_pos (Or.inl (by omega))])
             | (rw [if_pos (Or.inr ⟨by omega, by omega⟩)])
           · rw [zst_ne (by decide), zst_eq]
           · rw [zst_eq]; exact g5)
        | (have hno : ¬ (k = 4 ∨ (k = 2 ∧ s + 2 < zte n t s)) := by omega
           refine h1 (s, e7, k, if k = 2 then ztn (zbt n t) s e7 else 0) ?_ _ hF g2 g3 ⟨g5, g6, g4, fun q => ?_⟩
           · unfold ztk1
             rw [← hk, if_neg hno, hend]
           · have q : k = 2 := q
             show h2 1 7 = if k = 2 then ztn (zbt n t) s e7 else 0
             rw [if_pos q]
             rcases hgn q with z | z
             · omega
             · exact z.2)
      · intro c3
        constructor
        · intro c4
          refine And.intro (by first | omega | (simp only [zx_st]; simp; omega)) ?_
          first
          | (refine ⟨2000, by omega, Or.inr (Or.inr (Or.inr (Or.inl ⟨rfl, rfl, _, _, rfl, rfl, hF.st rfl, g2, g3, by omega, ?_, g5, g4⟩)))⟩
             rw [if_pos (by omega), zst_eq, g6])
          | (refine ⟨2000, by omega, Or.inr (Or.inr (Or.inr (Or.inl ⟨rfl, rfl, _, _, rfl, rfl, hF, g2, g3, by omega, ?_, g5, g4⟩)))⟩
             rw [if_neg (by omega), g6])
        · intro c4
          first
          | (refine ⟨2000, by omega, Or.inr (Or.inr (Or.inr (Or.inl ⟨rfl, rfl, _, _, rfl, rfl, hF.st rfl, g2, g3, by omega, ?_, g5, g4⟩)))⟩
             rw [if_pos (by omega), zst_eq, g6])
          | (refine ⟨2000, by omega, Or.inr (Or.inr (Or.inr (Or.inl ⟨rfl, rfl, _, _, rfl, rfl, hF, g2, g3, by omega, ?_, g5, g4⟩)))⟩
             rw [if_neg (by omega), g6])
    · obtain ⟨rfl, rfl, q1, q2, rfl, hm, hF, g2, g3, hk4, g6, g5, g4⟩ := hI
      constructor
      · intro c5
        first
        | (have hk3 : k = 0 ∨ k = 3 ∨ k = 1 ∨ k = 2 := by omega
           rcases hk3 with q | q | q
           · rw [if_neg (by omega)] at g6
             exact ⟨1000 - 0, by omega, Or.inr (Or.inr (Or.inr (Or.inr ⟨rfl, rfl, 0, s, 0, by first | rfl | (exfalso; omega), rfl, hF.st rfl, g2, g3, hk4, Or.inr ⟨rfl, rfl, Or.inl ⟨q, rfl⟩⟩, by omega, g6, g5, g4, fun _ => zst_eq _ _ _ _, fun z => by omega⟩)))⟩
           · rw [if_pos q] at g6
             exact ⟨1000 - 0, by omega, Or.inr (Or.inr (Or.inr (Or.inr ⟨rfl, rfl, 0, s + 1, 0, by first | rfl | (exfalso; omega), rfl, hF.st rfl, g2, g3, hk4, Or.inr ⟨rfl, rfl, Or.inr ⟨q, rfl⟩⟩, by have := hk0 (by omega); omega, g6, g5, g4, fun _ => zst_eq _ _ _ _, fun z => by omega⟩)))⟩
           · rw [if_neg (by omega)] at g6
             exact ⟨1000 - 0, by omega, Or.inr (Or.inr (Or.inr (Or.inr ⟨rfl, rfl, 0, s, 1, by first | rfl | (exfalso; omega), rfl, hF.st rfl, g2, g3, hk4, Or.inl ⟨rfl, q, rfl, rfl⟩, by omega, g6, g5, g4, fun _ => zst_eq _ _ _ _, fun z => ⟨fun x hx => by omega, fun x => by omega, fun x => by omega⟩⟩)))⟩)
        | (have hz : zsr (zbt n t e7) = k := by omega
           have ha2 := ha.resolve_right (fun q => by have := q.1; omega)
           obtain ⟨-, k12, e7i, e7r⟩ := ha2
           have hlt : e7 < n := zbt_lt (by
             intro q
             rw [q] at hz
             have : zsr (-4) = 0 := rfl
             omega)
           have hdig : k = 2 → 48 ≤ zbt n t e7 ∧ zbt n t e7 ≤ 57 := by
             intro q
             rw [q] at hz
             unfold zsr at hz
             repeat' split at hz
             all_goals omega
           refine ⟨1000 - (i7 + 1), by omega, Or.inr (Or.inr (Or.inr (Or.inr ⟨rfl, rfl, i7 + 1, e7 + 1, a7, rfl, rfl, (hF.st rfl).st rfl, g2, g3, hk4, Or.inl ⟨by omega, k12, by omega, (zru_t hlt (by unfold zss; exact decide_eq_true hz)).symm.trans e7r⟩, by omega, ?_, g5, g4, fun q => by omega, fun q => ?_⟩)))⟩
           · rw [zst_eq, zst_ne (by decide), g6]; rfl
           · obtain ⟨n1, n2, n3⟩ := gn q
             have hd := hdig q
             refine ⟨fun x hx => ?_, fun x => ?_, fun x => ?_⟩
             · by_cases ex : x = i7
               · rw [ex, ← e7i]; exact hd
               · exact n1 x (by omega)
             · have i0 : i7 = 0 := by omega
               have e7s : e7 = s := by omega
               rw [zst_ne (by decide), zst_eq, g7 i0, e7s]
               rw [e7s] at hd
               rw [zwr_id (x := 0 * 10) (by omega), zwr_id (x := 0 * 10 + zbt n t s) (by omega), zwr_id (by omega)]
               omega
             · have i1 : i7 = 1 := by omega
               have e7s : e7 = s + 1 := by omega
               have hd0 := n1 0 (by omega)
               rw [Nat.add_zero] at hd0
               rw [zst_ne (by decide), zst_eq, n2 i1, e7s]
               rw [e7s] at hd
               rw [zwr_id (x := (zbt n t s - 48) * 10) (by omega), zwr_id (x := (zbt n t s - 48) * 10 + zbt n t (s + 1)) (by omega), zwr_id (by omega)]
               omega)
      · intro c5
        constructor
        · intro c6
          first
          | (have hk3 : k = 0 ∨ k = 3 ∨ k = 1 ∨ k = 2 := by omega
             rcases hk3 with q | q | q
             · rw [if_neg (by omega)] at g6
               exact ⟨1000 - 0, by omega, Or.inr (Or.inr (Or.inr (Or.inr ⟨rfl, rfl, 0, s, 0, by first | rfl | (exfalso; omega), rfl, hF.st rfl, g2, g3, hk4, Or.inr ⟨rfl, rfl, Or.inl ⟨q, rfl⟩⟩, by omega, g6, g5, g4, fun _ => zst_eq _ _ _ _, fun z => by omega⟩)))⟩
             · rw [if_pos q] at g6
               exact ⟨1000 - 0, by omega, Or.inr (Or.inr (Or.inr (Or.inr ⟨rfl, rfl, 0, s + 1, 0, by first | rfl | (exfalso; omega), rfl, hF.st rfl, g2, g3, hk4, Or.inr ⟨rfl, rfl, Or.inr ⟨q, rfl⟩⟩, by have := hk0 (by omega); omega, g6, g5, g4, fun _ => zst_eq _ _ _ _, fun z => by omega⟩)))⟩
             · rw [if_neg (by omega)] at g6
               exact ⟨1000 - 0, by omega, Or.inr (Or.inr (Or.inr (Or.inr ⟨rfl, rfl, 0, s, 1, by first | rfl | (exfalso; omega), rfl, hF.st rfl, g2, g3, hk4, Or.inl ⟨rfl, q, rfl, rfl⟩, by omega, g6, g5, g4, fun _ => zst_eq _ _ _ _, fun z => ⟨fun x hx => by omega, fun x => by omega, fun x => by omega⟩⟩)))⟩)
          | (have hz : zsr (zbt n t e7) = k := by omega
             have ha2 := ha.resolve_right (fun q => by have := q.1; omega)
             obtain ⟨-, k12, e7i, e7r⟩ := ha2
             have hlt : e7 < n := zbt_lt (by
               intro q
               rw [q] at hz
               have : zsr (-4) = 0 := rfl
               omega)
             have hdig : k = 2 → 48 ≤ zbt n t e7 ∧ zbt n t e7 ≤ 57 := by
               intro q
               rw [q] at hz
               unfold zsr at hz
               repeat' split at hz
               all_goals omega
             refine ⟨1000 - (i7 + 1), by omega, Or.inr (Or.inr (Or.inr (Or.inr ⟨rfl, rfl, i7 + 1, e7 + 1, a7, rfl, rfl, (hF.st rfl).st rfl, g2, g3, hk4, Or.inl ⟨by omega, k12, by omega, (zru_t hlt (by unfold zss; exact decide_eq_true hz)).symm.trans e7r⟩, by omega, ?_, g5, g4, fun q => by omega, fun q => ?_⟩)))⟩
             · rw [zst_eq, zst_ne (by decide), g6]; rfl
             · obtain ⟨n1, n2, n3⟩ := gn q
               have hd := hdig q
               refine ⟨fun x hx => ?_, fun x => ?_, fun x => ?_⟩
               · by_cases ex : x = i7
                 · rw [ex, ← e7i]; exact hd
                 · exact n1 x (by omega)
               · have i0 : i7 = 0 := by omega
                 have e7s : e7 = s := by omega
                 rw [zst_ne (by decide), zst_eq, g7 i0, e7s]
                 rw [e7s] at hd
                 rw [zwr_id (x := 0 * 10) (by omega), zwr_id (x := 0 * 10 + zbt n t s) (by omega), zwr_id (by omega)]
                 omega
               · have i1 : i7 = 1 := by omega
                 have e7s : e7 = s + 1 := by omega
                 have hd0 := n1 0 (by omega)
                 rw [Nat.add_zero] at hd0
                 rw [zst_ne (by decide), zst_eq, n2 i1, e7s]
                 rw [e7s] at hd
                 rw [zwr_id (x := (zbt n t s - 48) * 10) (by omega), zwr_id (x := (zbt n t s - 48) * 10 + zbt n t (s + 1)) (by omega), zwr_id (by omega)]
                 omega)
        · intro c6
          first
          | (have hk3 : k = 0 ∨ k = 3 ∨ k = 1 ∨ k = 2 := by omega
             rcases hk3 with q | q | q
             · rw [if_neg (by omega)] at g6
               exact ⟨1000 - 0, by omega, Or.inr (Or.inr (Or.inr (Or.inr ⟨rfl, rfl, 0, s, 0, by first | rfl | (exfalso; omega), rfl, hF.st rfl, g2, g3, hk4, Or.inr ⟨rfl, rfl, Or.inl ⟨q, rfl⟩⟩, by omega, g6, g5, g4, fun _ => zst_eq _ _ _ _, fun z => by omega⟩)))⟩
             · rw [if_pos q] at g6
               exact ⟨1000 - 0, by omega, Or.inr (Or.inr (Or.inr (Or.inr ⟨rfl, rfl, 0, s + 1, 0, by first | rfl | (exfalso; omega), rfl, hF.st rfl, g2, g3, hk4, Or.inr ⟨rfl, rfl, Or.inr ⟨q, rfl⟩⟩, by have := hk0 (by omega); omega, g6, g5, g4, fun _ => zst_eq _ _ _ _, fun z => by omega⟩)))⟩
             · rw [if_neg (by omega)] at g6
               exact ⟨1000 - 0, by omega, Or.inr (Or.inr (Or.inr (Or.inr ⟨rfl, rfl, 0, s, 1, by first | rfl | (exfalso; omega), rfl, hF.st rfl, g2, g3, hk4, Or.inl ⟨rfl, q, rfl, rfl⟩, by omega, g6, g5, g4, fun _ => zst_eq _ _ _ _, fun z => ⟨fun x hx => by omega, fun x => by omega, fun x => by omega⟩⟩)))⟩)
          | (have hz : zsr (zbt n t e7) = k := by omega
             have ha2 := ha.resolve_right (fun q => by have := q.1; omega)
             obtain ⟨-, k12, e7i, e7r⟩ := ha2
             have hlt : e7 < n := zbt_lt (by
               intro q
               rw [q] at hz
               have : zsr (-4) = 0 := rfl
               omega)
             have hdig : k = 2 → 48 ≤ zbt n t e7 ∧ zbt n t e7 ≤ 57 := by
               intro q
               rw [q] at hz
               unfold zsr at hz
               repeat' split at hz
               all_goals omega
             refine ⟨1000 - (i7 + 1), by omega, Or.inr (Or.inr (Or.inr (Or.inr ⟨rfl, rfl, i7 + 1, e7 + 1, a7, rfl, rfl, (hF.st rfl).st rfl, g2, g3, hk4, Or.inl ⟨by omega, k12, by omega, (zru_t hlt (by unfold zss; exact decide_eq_true hz)).symm.trans e7r⟩, by omega, ?_, g5, g4, fun q => by omega, fun q => ?_⟩)))⟩
             · rw [zst_eq, zst_ne (by decide), g6]; rfl
             · obtain ⟨n1, n2, n3⟩ := gn q
               have hd := hdig q
               refine ⟨fun x hx => ?_, fun x => ?_, fun x => ?_⟩
               · by_cases ex : x = i7
                 · rw [ex, ← e7i]; exact hd
                 · exact n1 x (by omega)
               · have i0 : i7 = 0 := by omega
                 have e7s : e7 = s := by omega
                 rw [zst_ne (by decide), zst_eq, g7 i0, e7s]
                 rw [e7s] at hd
                 rw [zwr_id (x := 0 * 10) (by omega), zwr_id (x := 0 * 10 + zbt n t s) (by omega), zwr_id (by omega)]
                 omega
               · have i1 : i7 = 1 := by omega
                 have e7s : e7 = s + 1 := by omega
                 have hd0 := n1 0 (by omega)
                 rw [Nat.add_zero] at hd0
                 rw [zst_ne (by decide), zst_eq, n2 i1, e7s]
                 rw [e7s] at hd
                 rw [zwr_id (x := (zbt n t s - 48) * 10) (by omega), zwr_id (x := (zbt n t s - 48) * 10 + zbt n t (s + 1)) (by omega), zwr_id (by omega)]
                 omega)
    · obtain ⟨rfl, rfl, i7, e7, a7, rfl, hm, hF, g2, g3, hk4, ha, hen, g6, g5, g4, g7, gn⟩ := hI
      have ht2 := ht.fr hF
      have ha01 : a7 = 1 ∨ a7 = 0 := ha.imp And.left And.left
      have hbe := hbb e7
      constructor
      · intro c7
        constructor
        · intro c8
          have hend : zte n t s = e7 := by
            unfold zte
            rw [← hk]
            rcases ha with ⟨z1, z2, z3, z4⟩ | ⟨z1, z2, z3⟩
            · rw [if_pos z2, ← z4]
              first
              | exact zru_n (by omega)
              | (apply zru_f
                 unfold zss
                 refine decide_eq_false (fun q => ?_)
                 omega)
              | omega
            · rw [if_neg (by omega)]
              rcases z3 with ⟨z3, z4⟩ | ⟨z3, z4⟩
              · rw [if_neg (by omega), z4]
              · rw [if_pos z3, z4]
          have hgn : k = 2 → s + 2 < e7 ∨ (e7 = s + 1 ∨ e7 = s + 2) ∧ h2 1 7 = ztn (zbt n t) s e7 := by
            intro q
            obtain ⟨n1, n2, n3⟩ := gn q
            have ha2 := ha.resolve_right (fun z => by have := z.2.2; omega)
            obtain ⟨-, k12, e7i, e7r⟩ := ha2
            have hlt := hk0 (by omega)
            have hs1 : zru (zss k) n t s = zru (zss k) n t (s + 1) := zru_t hlt (by unfold zss; exact decide_eq_true hk.symm)
            have hs2 := zru_le (f := zss k) (t := t) (show s + 1 ≤ n by omega)
            have hend2 : zru (zss k) n t s = e7 := by
              have := hend
              unfold zte at this
              rw [← hk, if_pos k12] at this
              exact this
            unfold ztn
            rcases (show i7 = 0 ∨ i7 = 1 ∨ i7 = 2 ∨ 2 < i7 by omega) with q | q | q | q
            · omega
            · right
              rw [if_pos (by omega), n2 q]
              omega
            · right
              rw [if_neg (by omega), n3 q]
              omega
            · left
              omega
          constructor
          · intro c9
            refine And.intro (by first | omega | (simp only [zx_st]; simp; omega)) ?_
            constructor
            · intro c10
              refine s_164 ?_
              refine And.intro (fun _ => ?_) (fun c => absurd (by decide) c)
              refine And.intro (by first | exact Or.inl rfl | exact Or.inr rfl | omega) ?_
              first
              | (refine h0 (1, s) ?_ _ ((hF.st rfl).st rfl) ?_ ?_
                 · unfold ztk1
                   rw [← hk]
                   first
                   | (rw [if_pos (Or.inl (by omega))])
                   | (rw [if_pos (Or.inr ⟨by omega, by omega⟩)])
                 · rw [zst_ne (by decide), zst_eq]
                 · rw [zst_eq]; exact g5)
              | (have hno : ¬ (k = 4 ∨ (k = 2 ∧ s + 2 < zte n t s)) := by omega
                 refine h1 (s, e7, k, if k = 2 then ztn (zbt n t) s e7 else 0) ?_ _ hF g2 g3 ⟨g5, g6, g4, fun q => ?_⟩
                 · unfold ztk1
                   rw [← hk, if_neg hno, hend]
                 · have q : k = 2 := q
                   show h2 1 7 = if k = 2 then ztn (zbt n t) s e7 else 0
                   rw [if_pos q]
                   rcases hgn q with z | z
                   · omega
                   · exact z.2)
            · intro c10
              refine And.intro (by first | exact Or.inl rfl | exact Or.inr rfl | omega) ?_
              first
              | (refine h0 (1, s) ?_ _ ((hF.st rfl).st rfl) ?_ ?_
                 · unfold ztk1
                   rw [← hk]
                   first
                   | (rw [if_pos (Or.inl (by omega))])
                   | (rw [if_pos (Or.inr ⟨by omega, by omega⟩)])
                 · rw [zst_ne (by decide), zst_eq]
                 · rw [zst_eq]; exact g5)
              | (have hno : ¬ (k = 4 ∨ (k = 2 ∧ s + 2 < zte n t s)) := by omega
                 refine h1 (s, e7, k, if k = 2 then ztn (zbt n t) s e7 else 0) ?_ _ hF g2 g3 ⟨g5, g6, g4, fun q => ?_⟩
                 · unfold ztk1
                   rw [← hk, if_neg hno, hend]
                 · have q : k = 2 := q
                   show h2 1 7 = if k = 2 then ztn (zbt n t) s e7 else 0
                   rw [if_pos q]
                   rcases hgn q with z | z
                   · omega
                   · exact z.2)
          · intro c9
            refine And.intro (by first | exact Or.inl rfl | exact Or.inr rfl | omega) ?_
            first
            | (refine h0 (1, s) ?_ _ ((hF.st rfl).st rfl) ?_ ?_
               · unfold ztk1
                 rw [← hk]
                 first
                 | (rw [if_pos (Or.inl (by omega))])
                 | (rw [if_pos (Or.inr ⟨by omega, by omega⟩)])
               · rw [zst_ne (by decide), zst_eq]
               · rw [zst_eq]; exact g5)
            | (have hno : ¬ (k = 4 ∨ (k = 2 ∧ s + 2 < zte n t s)) := by omega
               refine h1 (s, e7, k, if k = 2 then ztn (zbt n t) s e7 else 0) ?_ _ hF g2 g3 ⟨g5, g6, g4, fun q => ?_⟩
               · unfold ztk1
                 rw [← hk, if_neg hno, hend]
               · have q : k = 2 := q
                 show h2 1 7 = if k = 2 then ztn (zbt n t) s e7 else 0
                 rw [if_pos q]
                 rcases hgn q with z | z
                 · omega
                 · exact z.2)
        · intro c8
          refine s_190t ht2 (p := e7) g6 ?_
          refine s_166 ?_
          constructor
          · intro c11
            refine s_190t ht2 (p := e7) g6 ?_
            refine And.intro (by first | omega | (simp only [zx_st]; simp; omega)) ?_
            refine And.intro (by first | omega | (simp only [zx_st]; simp; omega)) ?_
            first
            | (have hk3 : k = 0 ∨ k = 3 ∨ k = 1 ∨ k = 2 := by omega
               rcases hk3 with q | q | q
               · rw [if_neg (by omega)] at g6
                 exact ⟨1000 - 0, by omega, Or.inr (Or.inr (Or.inr (Or.inr ⟨rfl, rfl, 0, s, 0, by first | rfl | (exfalso; omega), rfl, hF.st rfl, g2, g3, hk4, Or.inr ⟨rfl, rfl, Or.inl ⟨q, rfl⟩⟩, by omega, g6, g5, g4, fun _ => zst_eq _ _ _ _, fun z => by omega⟩)))⟩
               · rw [if_pos q] at g6
                 exact ⟨1000 - 0, by omega, Or.inr (Or.inr (Or.inr (Or.inr ⟨rfl, rfl, 0, s + 1, 0, by first | rfl | (exfalso; omega), rfl, hF.st rfl, g2, g3, hk4, Or.inr ⟨rfl, rfl, Or.inr ⟨q, rfl⟩⟩, by have := hk0 (by omega); omega, g6, g5, g4, fun _ => zst_eq _ _ _ _, fun z => by omega⟩)))⟩
               · rw [if_neg (by omega)] at g6
                 exact ⟨1000 - 0, by omega, Or.inr (Or.inr (Or.inr (Or.inr ⟨rfl, rfl, 0, s, 1, by first | rfl | (exfalso; omega), rfl, hF.st rfl, g2, g3, hk4, Or.inl ⟨rfl, q, rfl, rfl⟩, by omega, g6, g5, g4, fun _ => zst_eq _ _ _ _, fun z => ⟨fun x hx => by omega, fun x => by omega, fun x => by omega⟩⟩)))⟩)
            | (have hz : zsr (zbt n t e7) = k := by omega
               have ha2 := ha.resolve_right (fun q => by have := q.1; omega)
               obtain ⟨-, k12, e7i, e7r⟩ := ha2
               have hlt : e7 < n := zbt_lt (by
                 intro q
                 rw [q] at hz
                 have : zsr (-4) = 0 := rfl
                 omega)
               have hdig : k = 2 → 48 ≤ zbt n t e7 ∧ zbt n t e7 ≤ 57 := by
                 intro q
                 rw [q] at hz
                 unfold zsr at hz
                 repeat' split at hz
                 all_goals omega
               refine ⟨1000 - (i7 + 1), by omega, Or.inr (Or.inr (Or.inr (Or.inr ⟨rfl, rfl, i7 + 1, e7 + 1, a7, rfl, rfl, (hF.st rfl).st rfl, g2, g3, hk4, Or.inl ⟨by omega, k12, by omega, (zru_t hlt (by unfold zss; exact decide_eq_true hz)).symm.trans e7r⟩, by omega, ?_, g5, g4, fun q => by omega, fun q => ?_⟩)))⟩
               · rw [zst_eq, zst_ne (by decide), g6]; rfl
               · obtain ⟨n1, n2, n3⟩ := gn q
                 have hd := hdig q
                 refine ⟨fun x hx => ?_, fun x => ?_, fun x => ?_⟩
                 · by_cases ex : x = i7
                   · rw [ex, ← e7i]; exact hd
                   · exact n1 x (by omega)
                 · have i0 : i7 = 0 := by omega
                   have e7s : e7 = s := by omega
                   rw [zst_ne (by decide), zst_eq, g7 i0, e7s]
                   rw [e7s] at hd
                   rw [zwr_id (x := 0 * 10) (by omega), zwr_id (x := 0 * 10 + zbt n t s) (by omega), zwr_id (by omega)]
                   omega
                 · have i1 : i7 = 1 := by omega
                   have e7s : e7 = s + 1 := by omega
                   have hd0 := n1 0 (by omega)
                   rw [Nat.add_zero] at hd0
                   rw [zst_ne (by decide), zst_eq, n2 i1, e7s]
                   rw [e7s] at hd
                   rw [zwr_id (x := (zbt n t s - 48) * 10) (by omega), zwr_id (x := (zbt n t s - 48) * 10 + zbt n t (s + 1)) (by omega), zwr_id (by omega)]
                   omega)
          · intro c11
            have hend : zte n t s = e7 := by
              unfold zte
              rw [← hk]
              rcases ha with ⟨z1, z2, z3, z4⟩ | ⟨z1, z2, z3⟩
              · rw [if_pos z2, ← z4]
                first
                | exact zru_n (by omega)
                | (apply zru_f
                   unfold zss
                   refine decide_eq_false (fun q => ?_)
                   omega)
                | omega
              · rw [if_neg (by omega)]
                rcases z3 with ⟨z3, z4⟩ | ⟨z3, z4⟩
                · rw [if_neg (by omega), z4]
                · rw [if_pos z3, z4]
            have hgn : k = 2 → s + 2 < e7 ∨ (e7 = s + 1 ∨ e7 = s + 2) ∧ h2 1 7 = ztn (zbt n t) s e7 := by
              intro q
              obtain ⟨n1, n2, n3⟩ := gn q
              have ha2 := ha.resolve_right (fun z => by have := z.2.2; omega)
              obtain ⟨-, k12, e7i, e7r⟩ := ha2
              have hlt := hk0 (by omega)
              have hs1 : zru (zss k) n t s = zru (zss k) n t (s + 1) := zru_t hlt (by unfold zss; exact decide_eq_true hk.symm)
              have hs2 := zru_le (f := zss k) (t := t) (show s + 1 ≤ n by omega)
              have hend2 : zru (zss k) n t s = e7 := by
                have := hend
                unfold zte at this
                rw [← hk, if_pos k12] at this
                exact this
              unfold ztn
              rcases (show i7 = 0 ∨ i7 = 1 ∨ i7 = 2 ∨ 2 < i7 by omega) with q | q | q | q
              · omega
              · right
                rw [if_pos (by omega), n2 q]
                omega
              · right
                rw [if_neg (by omega), n3 q]
                omega
              · left
                omega
            constructor
            · intro c12
              refine And.intro (by first | omega | (simp only [zx_st]; simp; omega)) ?_
              constructor
              · intro c13
                refine s_164 ?_
                refine And.intro (fun _ => ?_) (fun c => absurd (by decide) c)
                refine And.intro (by first | exact Or.inl rfl | exact Or.inr rfl | omega) ?_
                first
                | (refine h0 (1, s) ?_ _ ((hF.st rfl).st rfl) ?_ ?_
                   · unfold ztk1
                     rw [← hk]
                     first
                     | (rw [if_pos (Or.inl (by omega))])
                     | (rw [if_pos (Or.inr ⟨by omega, by omega⟩)])
                   · rw [zst_ne (by decide), zst_eq]
                   · rw [zst_eq]; exact g5)
                | (have hno : ¬ (k = 4 ∨ (k = 2 ∧ s + 2 < zte n t s)) := by omega
                   refine h1 (s, e7, k, if k = 2 then ztn (zbt n t) s e7 else 0) ?_ _ hF g2 g3 ⟨g5, g6, g4, fun q => ?_⟩
                   · unfold ztk1
                     rw [← hk, if_neg hno, hend]
                   · have q : k = 2 := q
                     show h2 1 7 = if k = 2 then ztn (zbt n t) s e7 else 0
                     rw [if_pos q]
                     rcases hgn q with z | z
                     · omega
                     · exact z.2)
              · intro c13
                refine And.intro (by first | exact Or.inl rfl | exact Or.inr rfl | omega) ?_
                first
                | (refine h0 (1, s) ?_ _ ((hF.st rfl).st rfl) ?_ ?_
                   · unfold ztk1
                     rw [← hk]
                     first
                     | (rw [if_pos (Or.inl (by omega))])
                     | (rw [if_pos (Or.inr ⟨by omega, by omega⟩)])
                   · rw [zst_ne (by decide), zst_eq]
                   · rw [zst_eq]; exact g5)
                | (have hno : ¬ (k = 4 ∨ (k = 2 ∧ s + 2 < zte n t s)) := by omega
                   refine h1 (s, e7, k, if k = 2 then ztn (zbt n t) s e7 else 0) ?_ _ hF g2 g3 ⟨g5, g6, g4, fun q => ?_⟩
                   · unfold ztk1
                     rw [← hk, if_neg hno, hend]
                   · have q : k = 2 := q
                     show h2 1 7 = if k = 2 then ztn (zbt n t) s e7 else 0
                     rw [if_pos q]
                     rcases hgn q with z | z
                     · omega
                     · exact z.2)
            · intro c12
              refine And.intro (by first | exact Or.inl rfl | exact Or.inr rfl | omega) ?_
              first
              | (refine h0 (1, s) ?_ _ ((hF.st rfl).st rfl) ?_ ?_
                 · unfold ztk1
                   rw [← hk]
                   first
                   | (rw [if_pos (Or.inl (by omega))])
                   | (rw [if_pos (Or.inr ⟨by omega, by omega⟩)])
                 · rw [zst_ne (by decide), zst_eq]
                 · rw [zst_eq]; exact g5)
              | (have hno : ¬ (k = 4 ∨ (k = 2 ∧ s + 2 < zte n t s)) := by omega
                 refine h1 (s, e7, k, if k = 2 then ztn (zbt n t) s e7 else 0) ?_ _ hF g2 g3 ⟨g5, g6, g4, fun q => ?_⟩
                 · unfold ztk1
                   rw [← hk, if_neg hno, hend]
                 · have q : k = 2 := q
                   show h2 1 7 = if k = 2 then ztn (zbt n t) s e7 else 0
                   rw [if_pos q]
                   rcases hgn q with z | z
                   · omega
                   · exact z.2)
      · intro c7
        have hend : zte n t s = e7 := by
          unfold zte
          rw [← hk]
          rcases ha with ⟨z1, z2, z3, z4⟩ | ⟨z1, z2, z3⟩
          · rw [if_pos z2, ← z4]
            first
            | exact zru_n (by omega)
            | (apply zru_f
               unfold zss
               refine decide_eq_false (fun q => ?_)
               omega)
            | omega
          · rw [if_neg (by omega)]
            rcases z3 with ⟨z3, z4⟩ | ⟨z3, z4⟩
            · rw [if_neg (by omega), z4]
            · rw [if_pos z3, z4]
        have hgn : k = 2 → s + 2 < e7 ∨ (e7 = s + 1 ∨ e7 = s + 2) ∧ h2 1 7 = ztn (zbt n t) s e7 := by
          intro q
          obtain ⟨n1, n2, n3⟩ := gn q
          have ha2 := ha.resolve_right (fun z => by have := z.2.2; omega)
          obtain ⟨-, k12, e7i, e7r⟩ := ha2
          have hlt := hk0 (by omega)
          have hs1 : zru (zss k) n t s = zru (zss k) n t (s + 1) := zru_t hlt (by unfold zss; exact decide_eq_true hk.symm)
          have hs2 := zru_le (f := zss k) (t := t) (show s + 1 ≤ n by omega)
          have hend2 : zru (zss k) n t s = e7 := by
            have := hend
            unfold zte at this
            rw [← hk, if_pos k12] at this
            exact this
          unfold ztn
          rcases (show i7 = 0 ∨ i7 = 1 ∨ i7 = 2 ∨ 2 < i7 by omega) with q | q | q | q
          · omega
          · right
            rw [if_pos (by omega), n2 q]
            omega
          · right
            rw [if_neg (by omega), n3 q]
            omega
          · left
            omega
        constructor
        · intro c14
          refine And.intro (by first | omega | (simp only [zx_st]; simp; omega)) ?_
          constructor
          · intro c15
            refine s_164 ?_
            refine And.intro (fun _ => ?_) (fun c => absurd (by decide) c)
            refine And.intro (by first | exact Or.inl rfl | exact Or.inr rfl | omega) ?_
            first
            | (refine h0 (1, s) ?_ _ ((hF.st rfl).st rfl) ?_ ?_
               · unfold ztk1
                 rw [← hk]
                 first
                 | (rw [if_pos (Or.inl (by omega))])
                 | (rw [if_pos (Or.inr ⟨by omega, by omega⟩)])
               · rw [zst_ne (by decide), zst_eq]
               · rw [zst_eq]; exact g5)
            | (have hno : ¬ (k = 4 ∨ (k = 2 ∧ s + 2 < zte n t s)) := by omega
               refine h1 (s, e7, k, if k = 2 then ztn (zbt n t) s e7 else 0) ?_ _ hF g2 g3 ⟨g5, g6, g4, fun q => ?_⟩
               · unfold ztk1
                 rw [← hk, if_neg hno, hend]
               · have q : k = 2 := q
                 show h2 1 7 = if k = 2 then ztn (zbt n t) s e7 else 0
                 rw [if_pos q]
                 rcases hgn q with z | z
                 · omega
                 · exact z.2)
          · intro c15
            refine And.intro (by first | exact Or.inl rfl | exact Or.inr rfl | omega) ?_
            first
            | (refine h0 (1, s) ?_ _ ((hF.st rfl).st rfl) ?_ ?_
               · unfold ztk1
                 rw [← hk]
                 first
                 | (rw [if_pos (Or.inl (by omega))])
                 | (rw [if_pos (Or.inr ⟨by omega, by omega⟩)])
               · rw [zst_ne (by decide), zst_eq]
               · rw [zst_eq]; exact g5)
            | (have hno : ¬ (k = 4 ∨ (k = 2 ∧ s + 2 < zte n t s)) := by omega
               refine h1 (s, e7, k, if k = 2 then ztn (zbt n t) s e7 else 0) ?_ _ hF g2 g3 ⟨g5, g6, g4, fun q => ?_⟩
               · unfold ztk1
                 rw [← hk, if_neg hno, hend]
               · have q : k = 2 := q
                 show h2 1 7 = if k = 2 then ztn (zbt n t) s e7 else 0
                 rw [if_pos q]
                 rcases hgn q with z | z
                 · omega
                 · exact z.2)
        · intro c14
          refine And.intro (by first | exact Or.inl rfl | exact Or.inr rfl | omega) ?_
          first
          | (refine h0 (1, s) ?_ _ ((hF.st rfl).st rfl) ?_ ?_
             · unfold ztk1
               rw [← hk]
               first
               | (rw [if_pos (Or.inl (by omega))])
               | (rw [if_pos (Or.inr ⟨by omega, by omega⟩)])
             · rw [zst_ne (by decide), zst_eq]
             · rw [zst_eq]; exact g5)
          | (have hno : ¬ (k = 4 ∨ (k = 2 ∧ s + 2 < zte n t s)) := by omega
             refine h1 (s, e7, k, if k = 2 then ztn (zbt n t) s e7 else 0) ?_ _ hF g2 g3 ⟨g5, g6, g4, fun q => ?_⟩
             · unfold ztk1
               rw [← hk, if_neg hno, hend]
             · have q : k = 2 := q
               show h2 1 7 = if k = 2 then ztn (zbt n t) s e7 else 0
               rw [if_pos q]
               rcases hgn q with z | z
               · omega
               · exact z.2)
/-- word w stands at a token -/
def zwq (n : Nat) (t : Nat → Int) (k : zTk) (l : List Int) : Prop := k.2.2.1 = 1 ∧ k.2.1 = k.1 + l.length ∧ ∀ a : Nat, a < l.length → zbt n t (k.1 + a) = l.getD a 0
/-- a token's bounds -/
def zTb (n : Nat) (k : zTk) : Prop := k.1 ≤ k.2.1 ∧ k.2.1 ≤ n ∧ (0 ≤ k.2.2.1 ∧ k.2.2.1 ≤ 3) ∧ (k.2.2.1 = 2 → 0 ≤ k.2.2.2 ∧ k.2.2.2 ≤ 99)
theorem ztk_b {n : Nat} {t : Nat → Int} (hb : ∀ i : Nat, i < n → 0 ≤ t i ∧ t i ≤ 127) {p : Nat} (hp : p ≤ n) {k : zTk} (h : ztk n t p = .inr k) : zTb n k := by
  unfold ztk ztk1 at h
  have hs := zru_le (f := zbl) (t := t) hp
  obtain ⟨s, es⟩ : ∃ s, s = zts n t p := ⟨_, rfl⟩
  rw [← es] at h
  have hs : p ≤ s ∧ s ≤ n := by rw [es]; exact hs
  obtain ⟨q, eq⟩ : ∃ q, q = zsr (zbt n t s) := ⟨_, rfl⟩
  have hq : 0 ≤ q ∧ q ≤ 4 := by
    rw [eq]
    unfold zsr
    repeat' split
    all_goals omega
  have hq0 : ¬ q = 0 → s < n := by
    intro z
    apply zbt_lt (t := t)
    intro y
    rw [eq, y] at z
    exact z rfl
  rw [← eq] at h
  split at h
  · cases h
  · rename_i hno
    have h := Sum.inr.inj h
    subst h
    have hru := zru_le (f := zss q) (t := t) hs.2
    have he : s ≤ zte n t s ∧ zte n t s ≤ n := by
      unfold zte
      rw [← eq]
      split
      · exact hru
      · split
        · have := hq0 (by omega)
          omega
        · omega
    refine ⟨he.1, he.2, ⟨hq.1, by show q ≤ 3; omega⟩, fun z => ?_⟩
    have z : q = 2 := z
    show 0 ≤ (if q = 2 then _ else (0 : Int)) ∧ (if q = 2 then _ else (0 : Int)) ≤ 99
    rw [if_pos z]
    have hlt := hq0 (by omega)
    have hd0 : 48 ≤ zbt n t s ∧ zbt n t s ≤ 57 := by
      rw [eq] at z
      unfold zsr at z
      repeat' split at z
      all_goals omega
    have h1 : zru (zss q) n t s = zru (zss q) n t (s + 1) := zru_t hlt (by unfold zss; exact decide_eq_true eq.symm)
    have h2 : zte n t s = zru (zss q) n t s := by
      unfold zte
      rw [← eq, if_pos (Or.inr z)]
    have h3 := zru_le (f := zss q) (t := t) (show s + 1 ≤ n by omega)
    unfold ztn
    split
    · omega
    · rename_i hne
      have hd1 : 48 ≤ zbt n t (s + 1) ∧ zbt n t (s + 1) ≤ 57 := by
        have hz : zsr (zbt n t (s + 1)) = q := by
          apply Classical.byContradiction
          intro y
          have := zru_f (f := zss q) (n := n) (t := t) (p := s + 1) (by unfold zss; exact decide_eq_false y)
          omega
        rw [z] at hz
        unfold zsr at hz
        repeat' split at hz
        all_goals omega
      omega
set_option maxHeartbeats 4000000 in
set_option maxRecDepth 100000 in
/-- Reader.isWord -/
theorem s_167 {h : zM} {n : Nat} {t : Nat → Int} (ht : zTp h n t) {k : zTk} (hk : zTc h k) (hb : zTb n k) {i : Nat} (hi : i < 13) {Q : zQ} (h1 : zwq n t k (zwd i) → Q (some (.inl 1)) h) (h0 : ¬ zwq n t k (zwd i) → Q (some (.inl 0)) h) : zR 167 [.inr (.inr 1), .inr (.inr (1000 + i))] h Q := by
  obtain ⟨k5, k6, k4, k7⟩ := hk
  obtain ⟨b1, b2, b3, b4⟩ := hb
  have n320 := ht.2.1
  have hbb := zbt_b (fun i hi => (ht.2.2 i hi).2)
  have wl := zwd_l i hi
  have wc := zwd_c i hi
  refine zx_met zk_167 (Or.inr ⟨_, _, rfl, rfl⟩) (Nat.le_of_ble_eq_true rfl) (fun _ => false) 1000 (fun m j L S h2 => j = 16 ∧ S = [] ∧ h2 = h ∧ ∃ a7 : Nat, L = [some (.inr (.inr 1)), some (.inr (.inr (1000 + i))), some (.inl (a7 : Int))] ∧ a7 ≤ (zwd i).length ∧ m = (zwd i).length - a7 ∧ k.2.2.1 = 1 ∧ k.2.1 = k.1 + (zwd i).length ∧ ∀ a, a < a7 → zbt n t (k.1 + a) = (zwd i).getD a 0) (fun hok hM => ?_) (fun hok hM => ?_)
  · constructor
    · intro c1
      refine And.intro (by omega) ?_
      refine s_202 hi ?_
      constructor
      · intro c2
        exact ⟨_, rfl, rfl, rfl, 0, rfl, by omega, rfl, by omega, by omega, fun a ha => by omega⟩
      · intro c2
        refine And.intro (by first | exact Or.inl rfl | exact Or.inr rfl | omega) ?_
        first
        | (refine h0 (fun q => ?_)
           have q1 := q.1
           have q2 := q.2.1
           omega)
        | (refine h0 (fun q => ?_)
           exact absurd (q.2.2 a7 (by omega)) (by assumption))
        | (exact h1 ⟨e1, e2, fun a hx => hp a (by omega)⟩)
    · intro c1
      refine And.intro (by first | exact Or.inl rfl | exact Or.inr rfl | omega) ?_
      first
      | (refine h0 (fun q => ?_)
         have q1 := q.1
         have q2 := q.2.1
         omega)
      | (refine h0 (fun q => ?_)
         exact absurd (q.2.2 a7 (by omega)) (by assumption))
      | (exact h1 ⟨e1, e2, fun a hx => hp a (by omega)⟩)
  · rintro m j L S h2 hM2 ⟨rfl, rfl, rfl, a7, rfl, ha, hm, e1, e2, hp⟩
    refine s_202 hi ?_
    constructor
    · intro c3
      refine And.intro (by omega) ?_
      refine s_190t ht (p := k.1 + a7) (by omega) ?_
      have hc := wc a7 (by omega)
      refine s_203 hi (by omega) (by omega) ?_
      constructor
      · intro c4
        rw [Int.toNat_natCast, ← hc.1] at c4
        refine And.intro (by omega) ?_
        refine ⟨(zwd i).length - (a7 + 1), by omega, rfl, rfl, rfl, a7 + 1, rfl, by omega, rfl, e1, e2, fun a hx => ?_⟩
        by_cases e : a = a7
        · rw [e]; assumption
        · exact hp a (by omega)
      · intro c4
        rw [Int.toNat_natCast, ← hc.1] at c4
        refine And.intro (by first | exact Or.inl rfl | exact Or.inr rfl | omega) ?_
        first
        | (refine h0 (fun q => ?_)
           have q1 := q.1
           have q2 := q.2.1
           omega)
        | (refine h0 (fun q => ?_)
           exact absurd (q.2.2 a7 (by omega)) (by assumption))
        | (exact h1 ⟨e1, e2, fun a hx => hp a (by omega)⟩)
    · intro c3
      refine And.intro (by first | exact Or.inl rfl | exact Or.inr rfl | omega) ?_
      first
      | (refine h0 (fun q => ?_)
         have q1 := q.1
         have q2 := q.2.1
         omega)
      | (refine h0 (fun q => ?_)
         exact absurd (q.2.2 a7 (by omega)) (by assumption))
      | (exact h1 ⟨e1, e2, fun a hx => hp a (by omega)⟩)
/-- the variable at a token; -4: none -/
def zvh (n : Nat) (t : Nat → Int) (k : zTk) : Int := if k.2.2.1 = 1 ∧ k.2.1 = k.1 + 1 ∧ 97 ≤ zbt n t k.1 ∧ zbt n t k.1 < 103 then zbt n t k.1 - 97 else -4
def zoh (n : Nat) (t : Nat → Int) (k : zTk) : Int := if k.2.2.1 = 2 then k.2.2.2 else if zvh n t k < 0 then -4 else 100 + zvh n t k
theorem zvh_b {n : Nat} {t : Nat → Int} {k : zTk} : zvh n t k = -4 ∨ 0 ≤ zvh n t k ∧ zvh n t k < 6 := by
  unfold zvh
  split <;> omega
set_option maxHeartbeats 4000000 in
set_option maxRecDepth 100000 in
/-- Reader.variableHere -/
theorem s_168 {h : zM} {n : Nat} {t : Nat → Int} (ht : zTp h n t) {k : zTk} (hk : zTc h k) (hb : zTb n k) {Q : zQ} (hq : Q (some (.inl (zvh n t k))) h) : zR 168 [.inr (.inr 1)] h Q := by
  obtain ⟨k5, k6, k4, k7⟩ := hk
  obtain ⟨b1, b2, b3, b4⟩ := hb
  have n320 := ht.2.1
  have hbb := zbt_b (fun i hi => (ht.2.2 i hi).2)
  have hb1 := hbb k.1
  unfold zvh at hq
  refine zx_met0 zk_168 (Or.inr ⟨_, _, rfl, rfl⟩) (Nat.le_of_ble_eq_true rfl) 1000 (fun hok hM => ?_)
  refine s_190t ht (p := k.1) k5 ?_
  refine And.intro (by omega) ?_
  constructor
  · intro c1
    refine And.intro (by omega) ?_
    constructor
    · intro c2
      refine s_38 (fun a1 => ?_) (fun a1 => ?_)
      · refine And.intro (fun c => absurd c (by decide)) (fun _ => ?_)
        first
        | (rw [if_neg (by omega)] at hq; exact hq)
        | (rw [if_pos (by omega)] at hq; exact hq)
      · refine And.intro (fun _ => ?_) (fun c => absurd (by decide) c)
        first
        | (rw [if_neg (by omega)] at hq; exact hq)
        | (rw [if_pos (by omega)] at hq; exact hq)
    · intro c2
      first
      | (rw [if_neg (by omega)] at hq; exact hq)
      | (rw [if_pos (by omega)] at hq; exact hq)
  · intro c1
    first
    | (rw [if_neg (by omega)] at hq; exact hq)
    | (rw [if_pos (by omega)] at hq; exact hq)
set_option maxHeartbeats 4000000 in
set_option maxRecDepth 100000 in
/-- Reader.operandHere -/
theorem s_169 {h : zM} {n : Nat} {t : Nat → Int} (ht : zTp h n t) {k : zTk} (hk : zTc h k) (hb : zTb n k) {Q : zQ} (hq : Q (some (.inl (zoh n t k))) h) : zR 169 [.inr (.inr 1)] h Q := by
  have hk0 := hk
  have hb0 := hb
  obtain ⟨k5, k6, k4, k7⟩ := hk
  obtain ⟨b1, b2, b3, b4⟩ := hb
  have n320 := ht.2.1
  have hbb := zbt_b (fun i hi => (ht.2.2 i hi).2)
  have hvb := zvh_b (n := n) (t := t) (k := k)
  unfold zoh at hq
  refine zx_met0 zk_169 (Or.inr ⟨_, _, rfl, rfl⟩) (Nat.le_of_ble_eq_true rfl) 1000 (fun hok hM => ?_)
  constructor
  · intro c1
    first
    | (rw [if_pos (by omega), ← k7 (by omega)] at hq; exact hq)
    | (rw [if_neg (by omega), if_pos (by omega)] at hq; exact hq)
    | (rw [if_neg (by omega), if_neg (by omega)] at hq; exact hq)
  · intro c1
    refine s_168 ht hk0 hb0 ?_
    constructor
    · intro c2
      first
      | (rw [if_pos (by omega), ← k7 (by omega)] at hq; exact hq)
      | (rw [if_neg (by omega), if_pos (by omega)] at hq; exact hq)
      | (rw [if_neg (by omega), if_neg (by omega)] at hq; exact hq)
    · intro c2
      refine And.intro (by omega) ?_
      first
      | (rw [if_pos (by omega), ← k7 (by omega)] at hq; exact hq)
      | (rw [if_neg (by omega), if_pos (by omega)] at hq; exact hq)
      | (rw [if_neg (by omega), if_neg (by omega)] at hq; exact hq)
