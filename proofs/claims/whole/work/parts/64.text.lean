/-! What is read is well; the class's text() -/
def zgood {α : Type} (n : Nat) (P : α → Prop) (x : (Int × Nat) ⊕ α) : Prop := (∀ e, x = .inl e → e.2 ≤ n ∧ 0 < e.1 ∧ e.1 ≤ 6) ∧ ∀ a, x = .inr a → P a
theorem zgood_r {α : Type} {n : Nat} {P : α → Prop} {a : α} (h : P a) : zgood n P (.inr a) := ⟨(fun e q => by cases q), (fun b q => by cases q; exact h)⟩
theorem zgood_l {α : Type} {n : Nat} {P : α → Prop} {c : Int} {p : Nat} (h1 : p ≤ n) (h2 : 0 < c ∧ c ≤ 6) : zgood n P (.inl (c, p)) := ⟨(fun e q => by cases q; exact ⟨h1, h2.1, h2.2⟩), (fun b q => by cases q)⟩
theorem zgood_bd {α β : Type} {n : Nat} {P : α → Prop} {R : β → Prop} {x : (Int × Nat) ⊕ α} {f : α → (Int × Nat) ⊕ β} (h : zgood n P x) (hf : ∀ a, P a → zgood n R (f a)) : zgood n R (zbd x f) := by
  cases x with
  | inl e => exact ⟨(fun e2 q => by cases q; exact h.1 e rfl), (fun b q => by cases q)⟩
  | inr a => exact hf a (h.2 a rfl)
theorem zg_tk {n : Nat} {t : Nat → Int} (hb : ∀ i : Nat, i < n → 0 ≤ t i ∧ t i ≤ 127) {p : Nat} (hp : p ≤ n) : zgood n (zTb n) (ztk n t p) := by
  refine ⟨fun e h => ?_, fun k h => ztk_b hb hp h⟩
  have hs := zru_le (f := zbl) (t := t) hp
  unfold ztk ztk1 at h
  split at h
  · cases h
    exact ⟨hs.2, by show (0 : Int) < 1; omega, by show (1 : Int) ≤ 6; omega⟩
  · cases h
theorem zg_ta {n : Nat} {t : Nat → Int} (hb : ∀ i : Nat, i < n → 0 ≤ t i ∧ t i ≤ 127) {k : zTk} (hk : zTb n k) (x : Int) : zgood n (fun k2 => zTb n k2 ∧ 0 ≤ x) (zta n t k x) := by
  unfold zta
  split
  · exact zgood_l (by have := hk.1; have := hk.2.1; omega) (by decide)
  · rename_i q
    have h := zg_tk hb hk.2.1
    exact ⟨h.1, fun a ha => ⟨h.2 a ha, by omega⟩⟩
theorem zg_bn {n : Nat} {t : Nat → Int} (hb : ∀ i : Nat, i < n → 0 ≤ t i ∧ t i ≤ 127) {k : zTk} (hk : zTb n k) : zgood n (fun k2 => zTb n k2 ∧ k.2.2.1 = 2 ∧ 0 ≤ k.2.2.2 ∧ k.2.2.2 < 8) (zbn n t k) := by
  refine ⟨fun e h => ?_, fun k2 h => ?_⟩
  · unfold zbn at h
    split at h
    · cases h
      exact ⟨by have := hk.1; have := hk.2.1; show k.1 ≤ n; omega, by show (0 : Int) < 3; omega, by show (3 : Int) ≤ 6; omega⟩
    · exact (zg_ta hb hk _).1 e h
  · obtain ⟨a, b, c⟩ := zbn_b hb hk h
    exact ⟨a, b, (hk.2.2.2 b).1, c⟩
theorem zg_sm {n : Nat} {t : Nat → Int} (hb : ∀ i : Nat, i < n → 0 ≤ t i ∧ t i ≤ 127) {k : zTk} (hk : zTb n k) : zgood n (zTb n) (zsm1 n t k) := by
  have h := zg_ta hb hk (if k.2.2.1 = 3 then 0 else -4)
  exact ⟨h.1, fun a ha => (h.2 a ha).1⟩
theorem zoh_b {n : Nat} {t : Nat → Int} {k : zTk} (hk : zTb n k) (h : 0 ≤ zoh n t k) : zoh n t k < 106 := by
  have := zvh_b (n := n) (t := t) (k := k)
  have h4 := hk.2.2.2
  unfold zoh at h ⊢
  split
  · have := h4 (by assumption)
    omega
  · split <;> omega
theorem zg_set {n : Nat} {t : Nat → Int} (hb : ∀ i : Nat, i < n → 0 ≤ t i ∧ t i ≤ 127) {k : zTk} (hk : zTb n k) : zgood n (fun r => zTb n r.1 ∧ zWS r.2) (zset n t k) := by
  unfold zset
  refine zgood_bd (zg_ta hb hk _) (fun k2 ⟨b2, x2⟩ => zgood_bd (zg_ta hb b2 _) (fun k3 ⟨b3, x3⟩ => ?_))
  have hv := zvh_b (n := n) (t := t) (k := k)
  have h2 := zoh_b b2 x3
  split
  · refine zgood_bd (zg_ta hb b3 _) (fun k4 ⟨b4, x4⟩ => zgood_bd (zg_ta hb b4 _) (fun k5 ⟨b5, x5⟩ => zgood_r ⟨b5, ?_⟩))
    have h4 := zoh_b b4 x5
    have ho := zoq_b (n := n) (t := t) (k := k3)
    left
    exact ⟨rfl, by show 0 ≤ zvh n t k ∧ zvh n t k < 6; omega, ⟨x3, h2⟩, by show 0 ≤ zoq n t k3 ∧ zoq n t k3 < 4; omega, x5, h4⟩
  · refine zgood_r ⟨b3, ?_⟩
    left
    exact ⟨rfl, by show 0 ≤ zvh n t k ∧ zvh n t k < 6; omega, ⟨x3, h2⟩, by show (0 : Int) ≤ 0 ∧ (0 : Int) < 4; omega, by show (0 : Int) ≤ 0 ∧ (0 : Int) < 106; omega⟩
theorem zg_say {n : Nat} {t : Nat → Int} (hb : ∀ i : Nat, i < n → 0 ≤ t i ∧ t i ≤ 127) {k : zTk} (hk : zTb n k) : zgood n (fun r => zTb n r.1 ∧ zWS r.2) (zsay n t k) := by
  unfold zsay
  refine zgood_bd (zg_ta hb hk _) (fun k2 ⟨b2, x2⟩ => zgood_r ⟨b2, ?_⟩)
  right
  exact ⟨rfl, rfl, ⟨x2, zoh_b hk x2⟩, rfl, rfl⟩
theorem zg_step {n : Nat} {t : Nat → Int} (hb : ∀ i : Nat, i < n → 0 ≤ t i ∧ t i ≤ 127) {k : zTk} (hk : zTb n k) : zgood n (fun r => zTb n r.1 ∧ zWS r.2) (zstep n t k) := by
  unfold zstep
  refine zgood_bd (zg_tk hb hk.2.1) (fun k1 b1 => zgood_bd (P := fun r => zTb n r.1 ∧ zWS r.2) ?_ (fun r hr => zgood_bd (zg_sm hb hr.1) (fun k2 b2 => zgood_r ⟨b2, hr.2⟩)))
  split
  · exact zg_set hb b1
  · exact zg_say hb b1
theorem zg_steps {n : Nat} {t : Nat → Int} (hb : ∀ i : Nat, i < n → 0 ≤ t i ∧ t i ≤ 127) : ∀ (f : Nat) {k : zTk} {m : Nat} {S : Nat → Nat → Int}, zTb n k → m ≤ 24 → (∀ i, i < m → zWS (S i)) → zgood n (fun r => zTb n r.1 ∧ m ≤ r.2.1 ∧ r.2.1 ≤ 24 ∧ (∀ i, i < r.2.1 → zWS (r.2.2 i)) ∧ ∀ i, i < m → r.2.2 i = S i) (zsteps n t f k m S)
  | 0, k, m, S, hk, hm, hs => zgood_r ⟨hk, Nat.le_refl _, hm, hs, fun _ _ => rfl⟩
  | f + 1, k, m, S, hk, hm, hs => by
    rw [zsteps]
    split
    · split
      · exact zgood_l (by have := hk.1; have := hk.2.1; omega) (by decide)
      · refine zgood_bd (zg_step hb hk) (fun r hr => ?_)
        have h := zg_steps hb f (m := m + 1) (S := fun i => if i = m then r.2 else S i) hr.1 (by omega) (fun i hi => by
          show zWS (if i = m then r.2 else S i)
          split
          · exact hr.2
          · exact hs i (by omega))
        refine ⟨h.1, fun a ha => ?_⟩
        obtain ⟨q1, q2, q3, q4, q5⟩ := h.2 a ha
        refine ⟨q1, by omega, q3, q4, fun i hi => ?_⟩
        rw [q5 i (by omega)]
        show (if i = m then r.2 else S i) = S i
        rw [if_neg (by omega)]
    · exact zgood_r ⟨hk, Nat.le_refl _, hm, hs, fun _ _ => rfl⟩
theorem zg_end {n : Nat} {t : Nat → Int} (hb : ∀ i : Nat, i < n → 0 ≤ t i ∧ t i ≤ 127) {k : zTk} (hk : zTb n k) : zgood n (fun r => zTb n r.1 ∧ zWE 8 (zst6v 0 0 r.2.1 r.2.2.1 r.2.2.2.1 r.2.2.2.2)) (zendp n t k) := by
  refine ⟨fun e h => ?_, fun r h => zendp_b hb hk h⟩
  have key : zgood n (fun _ => True) (zendp n t k) := by
    unfold zendp
    split
    · exact zgood_bd (zg_tk hb hk.2.1) (fun _ _ => zgood_r trivial)
    · split
      · exact zgood_bd (zg_tk hb hk.2.1) (fun k1 b1 => zgood_bd (zg_bn hb b1) (fun _ _ => zgood_r trivial))
      · split
        · exact zgood_bd (zg_tk hb hk.2.1) (fun k1 b1 => zgood_bd (zg_ta hb b1 _) (fun k2 b2 => zgood_bd (zg_bn hb b2.1) (fun k3 b3 => zgood_bd (zg_bn hb b3.1) (fun _ _ => zgood_r trivial))))
        · exact zgood_l (by have := hk.1; have := hk.2.1; omega) (by decide)
  exact key.1 e h
/-- what is read, as it must be -/
def zWd (D : zD) : Prop := D.1 ≤ 8 ∧ D.2.2.1 ≤ 24 ∧ (∀ p, p < D.1 → 0 ≤ D.2.1 p 0 ∧ 0 ≤ D.2.1 p 1 ∧ D.2.1 p 0 + D.2.1 p 1 ≤ (D.2.2.1 : Int) ∧ zWE 8 (D.2.1 p)) ∧ ∀ i, i < D.2.2.1 → zWS (D.2.2.2 i)
theorem zg_block {n : Nat} {t : Nat → Int} (hb : ∀ i : Nat, i < n → 0 ≤ t i ∧ t i ≤ 127) {k : zTk} (hk : zTb n k) {D : zD} (hD : zWd D) : zgood n (fun r => zTb n r.1 ∧ zWd r.2) (zblock n t k D) := by
  obtain ⟨d1, d2, d3, d4⟩ := hD
  unfold zblock
  split
  · split
    · exact zgood_l (by have := hk.1; have := hk.2.1; omega) (by decide)
    · refine zgood_bd (zg_tk hb hk.2.1) (fun k1 b1 => zgood_bd (zg_sm hb b1) (fun k2 b2 => zgood_bd (zg_steps hb 25 b2 d2 d4) (fun r ⟨r1, r2, r3, r4, r5⟩ => zgood_bd (zg_end hb r1) (fun e ⟨e1, e2⟩ => zgood_bd (zg_sm hb e1) (fun k3 b3 => zgood_r ⟨b3, ?_⟩)))))
      refine ⟨by show D.1 + 1 ≤ 8; omega, r3, fun p hp => ?_, r4⟩
      have hp : p < D.1 + 1 := hp
      show 0 ≤ (if p = D.1 then _ else D.2.1 p) 0 ∧ 0 ≤ (if p = D.1 then _ else D.2.1 p) 1 ∧ (if p = D.1 then _ else D.2.1 p) 0 + (if p = D.1 then _ else D.2.1 p) 1 ≤ (r.2.1 : Int) ∧ zWE 8 (if p = D.1 then _ else D.2.1 p)
      by_cases q : p = D.1
      · simp only [if_pos q]
        refine ⟨?_, ?_, ?_, e2⟩
        · show 0 ≤ (D.2.2.1 : Int)
          omega
        · show 0 ≤ (r.2.1 : Int) - (D.2.2.1 : Int)
          omega
        · show (D.2.2.1 : Int) + ((r.2.1 : Int) - (D.2.2.1 : Int)) ≤ (r.2.1 : Int)
          omega
      · simp only [if_neg q]
        obtain ⟨c1, c2, c3, c4⟩ := d3 p (by omega)
        exact ⟨c1, c2, by omega, c4⟩
  · exact zgood_l (by have := hk.1; have := hk.2.1; omega) (by decide)
theorem zg_blocks {n : Nat} {t : Nat → Int} (hb : ∀ i : Nat, i < n → 0 ≤ t i ∧ t i ≤ 127) : ∀ (f : Nat) {k : zTk} {D : zD}, zTb n k → zWd D → zgood n (fun r => zTb n r.1 ∧ zWd r.2) (zblocks n t f k D)
  | 0, k, D, hk, hD => zgood_r ⟨hk, hD⟩
  | f + 1, k, D, hk, hD => by
    rw [zblocks]
    split
    · exact zgood_r ⟨hk, hD⟩
    · exact zgood_bd (zg_block hb hk hD) (fun r hr => zg_blocks hb f hr.1 hr.2)
/-- the program that is read -/
def zGD (D : zD) : zG := (D.1, D.2.1, D.2.2.1, D.2.2.2, fun _ => -1, 1)
theorem zwhole_p {D : zD} : ∀ q p, zwhole D q = true → p < q → D.2.1 p 3 < (D.1 : Int) ∧ D.2.1 p 4 < (D.1 : Int)
  | 0, p, _, hp => by omega
  | q + 1, p, h, hp => by
    have h : (zwhole D q && decide (D.2.1 q 3 < (D.1 : Int)) && decide (D.2.1 q 4 < (D.1 : Int))) = true := h
    simp only [Bool.and_eq_true, decide_eq_true_eq] at h
    by_cases e : p = q
    · subst e
      exact ⟨h.1.2, h.2⟩
    · exact zwhole_p q p h.1.1 (by omega)
theorem zg_text {n : Nat} {t : Nat → Int} (hb : ∀ i : Nat, i < n → 0 ≤ t i ∧ t i ≤ 127) : zgood n (fun D => zWf (zGD D)) (ztext n t) := by
  unfold ztext
  refine zgood_bd (zg_tk hb (Nat.zero_le _)) (fun k b => zgood_bd (zg_blocks hb 9 b (D := zD0) ⟨Nat.zero_le _, Nat.zero_le _, fun p hp => absurd hp (Nat.not_lt_zero _), fun p hp => absurd hp (Nat.not_lt_zero _)⟩) (fun r ⟨r1, r2⟩ => ?_))
  obtain ⟨d1, d2, d3, d4⟩ := r2
  split
  · rename_i hw
    refine zgood_r ⟨d1, d2, fun p hp => ?_, d4, fun v _ _ => by show (-1 : Int) ≤ -1 ∧ (-1 : Int) ≤ 99; omega, Or.inr rfl⟩
    have hp : p < r.2.1 := hp
    obtain ⟨c1, c2, c3, c4⟩ := d3 p hp
    obtain ⟨e1, e2⟩ := zwhole_p _ p hw hp
    refine ⟨c1, c2, c3, ?_⟩
    show zWE r.2.1 (r.2.2.1 p)
    unfold zWE at c4 ⊢
    omega
  · exact zgood_l (Nat.le_refl _) (by decide)
def zXe : Nat → Int → Bool := fun r k => zGf r k || (Nat.beq r 2 && decide (k = 1))
def zXf : Nat → Int → Bool := fun r k => zXe r k || (Nat.ble 12 r && Nat.ble r 19) || Nat.beq r 44 || Nat.beq r 45 || Nat.beq r 51 || (Nat.beq r 0 && (decide (k = 15) || decide (k = 16)))
theorem zXe_G {h h2 : zM} (hF : zF zGf h h2) : zF zXe h h2 := hF.mono (fun r j hf => (Bool.or_eq_false_iff.mp hf).1)
theorem zXf_e {h h2 : zM} (hF : zF zXe h h2) : zF zXf h h2 := hF.mono (fun r j hf => by
  unfold zXf at hf
  simp only [Bool.or_eq_false_iff] at hf
  exact hf.1.1.1.1.1)
theorem zXf_b {h h2 : zM} (hF : zF (fun r _ => (Nat.ble 12 r && Nat.ble r 19) || Nat.beq r 44 || Nat.beq r 45) h h2) : zF zXf h h2 := hF.mono (fun r j hf => by
  unfold zXf at hf
  simp only [Bool.or_eq_false_iff] at hf ⊢
  exact ⟨⟨hf.1.1.1.1.2, hf.1.1.1.2⟩, hf.1.1.2⟩)
set_option maxHeartbeats 4000000 in
set_option maxRecDepth 100000 in
/-- C.text -/
theorem s_2 {h : zM} {n : Nat} {t : Nat → Int} (ht : zTp h n t) {Q : zQ} (h1 : ∀ D, ztext n t = .inr D → ∀ h2, zF zXf h h2 → h2 2 1 = 0 → h2 1 2 = 0 → zPc h2 12 44 (zGD D) → h2 51 0 = 0 → h2 51 1 = 0 → h2 0 15 = 0 → h2 0 16 = 1 → Q (some (.inl (D.1 : Int))) h2) (h0 : ∀ e, ztext n t = .inl e → ∀ h2, zF zXe h h2 → h2 2 1 = 0 → h2 1 2 = e.1 → Q (some (.inl (-10 - (e.2 : Int)))) h2) : zR 2 [.inr (.inr 0)] h Q := by
  have hg := zg_text (fun i (hi : i < n) => (ht.2.2 i hi).2)
  have n320 := ht.2.1
  refine zx_met zk_2 (Or.inr ⟨_, _, rfl, rfl⟩) (Nat.le_of_ble_eq_true rfl) (fun _ => false) 1000 (fun m j L S h2 => j = 25 ∧ S = [] ∧ ∃ (k7 : Nat) (q1 : Option zV) (D7 : zD), L = [some (.inr (.inr 0)), q1, some (.inl (k7 : Int))] ∧ k7 ≤ 2 ∧ m = 2 - k7 ∧ ztext n t = .inr D7 ∧ zF zXf h h2 ∧ h2 2 1 = 0 ∧ h2 1 2 = 0 ∧ zPc h2 12 44 (zGD D7) ∧ ∀ a : Nat, a < k7 → h2 51 (a : Int) = 0) (fun hok hM => ?_) (fun hok hM => ?_)
  · refine s_163 ht (fun D7 z7 h3 hF1 g2 hd => ?_) (fun e z h3 hF1 g2 g3 => ?_)
    · refine And.intro (fun c => absurd c (by decide)) (fun _ => ?_)
      obtain ⟨d1, d2, d3, d4, d5, d6⟩ := hd
      refine s_159 (fun h4 hF2 y1 y2 y3 y4 y5 y6 => ?_)
      refine ⟨_, rfl, rfl, 0, _, D7, rfl, by omega, rfl, z7, ((zXf_e (zXe_G hF1)).st rfl).tr (zXf_b hF2), (hF2 _ _ rfl).trans (zst_eq _ _ _ _), (hF2 _ _ rfl).trans g2, ⟨y1.trans d1, y2.trans d2, fun p w hp hw => ?_, fun i w hi hw => ?_, fun v v0 v6 => y6 v v0 v6, y5⟩, fun a ha => by omega⟩
      · have hp : p < D7.1 := hp
        refine (y3 w (p : Int) hw (by omega) (by omega)).trans ?_
        rw [zst_nr (by omega)]
        exact d3 p w hp hw
      · have hi : i < D7.2.2.1 := hi
        refine (y4 _ (by omega) (by omega)).trans ?_
        exact d4 i w hi hw
    · refine And.intro (fun _ => ?_) (fun c => absurd (by decide) c)
      refine And.intro (by have := (hg.1 e z).1; show -2147483648 ≤ -10 - h3 1 3 ∧ -10 - h3 1 3 < 2147483648; omega) ?_
      first
      | (have hq := h0 e z (zx_st h3 2 1 0) ((zXe_G hF1).st rfl) (zst_eq _ _ _ _) g2
         rw [← g3] at hq
         exact hq)
      | (have k2 : k7 = 2 := by omega
         subst k2
         have hq := h1 D7 z7 (zx_st (zx_st h2 0 15 0) 0 16 1) ((hF.st rfl).st rfl) g21 g2 (hp.fr (fun w k hw => by rw [zst_nr (by omega), zst_nr (by omega)]) (fun k => by rw [zst_nr (by omega), zst_nr (by omega)]) (fun k => by rw [zst_nr (by omega), zst_nr (by omega)])) (h51 0 (by omega)) (h51 1 (by omega)) (by rw [zst_ne (by decide), zst_eq]) (zst_eq _ _ _ _)
         rw [show (D7.1 : Int) = h2 12 7 from e127.symm] at hq
         exact hq)
  · rintro m j L S h2 hM2 ⟨rfl, rfl, k7, q1, D7, rfl, hk7, hm, z7, hF, g21, g2, hp, h51⟩
    have e127 := hp.1
    constructor
    · intro c1
      refine And.intro (by show 0 ≤ _ ∧ _ < (2 : Int); omega) ?_
      refine And.intro (by first | exact Or.inl rfl | exact Or.inr rfl | omega) ?_
      refine And.intro (by omega) ?_
      refine ⟨2 - (k7 + 1), by omega, rfl, rfl, k7 + 1, _, D7, rfl, by omega, rfl, z7, hF.st rfl, g21, g2, hp.fr (fun w k hw => zst_nr (by omega)) (fun k => zst_nr (by omega)) (fun k => zst_nr (by omega)), fun a ha => ?_⟩
      by_cases e : a = k7
      · rw [e]; exact zst_eq _ _ _ _
      · rw [zst_ne (by omega)]; exact h51 a (by omega)
    · intro c1
      refine And.intro (by first | exact Or.inl rfl | exact Or.inr rfl | omega) ?_
      refine And.intro (by first | exact Or.inl rfl | exact Or.inr rfl | omega) ?_
      first
      | (have hq := h0 e z (zx_st h3 2 1 0) ((zXe_G hF1).st rfl) (zst_eq _ _ _ _) g2
         rw [← g3] at hq
         exact hq)
      | (have k2 : k7 = 2 := by omega
         subst k2
         have hq := h1 D7 z7 (zx_st (zx_st h2 0 15 0) 0 16 1) ((hF.st rfl).st rfl) g21 g2 (hp.fr (fun w k hw => by rw [zst_nr (by omega), zst_nr (by omega)]) (fun k => by rw [zst_nr (by omega), zst_nr (by omega)]) (fun k => by rw [zst_nr (by omega), zst_nr (by omega)])) (h51 0 (by omega)) (h51 1 (by omega)) (by rw [zst_ne (by decide), zst_eq]) (zst_eq _ _ _ _)
         rw [show (D7.1 : Int) = h2 12 7 from e127.symm] at hq
         exact hq)
