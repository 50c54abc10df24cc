/-! BITS; UNKNOWN and READ ahead, pure -/
theorem zB_or : ∀ a : Nat, a < 64 → ∀ b : Nat, b < 64 → zx_or (a : Int) (b : Int) = ((a ||| b : Nat) : Int) ∧ a ||| b < 64 := by decide +kernel
theorem zB_and : ∀ a : Nat, a < 64 → ∀ b : Nat, b < 64 → zx_and (a : Int) (b : Int) = ((a &&& b : Nat) : Int) ∧ a &&& b < 64 := by decide +kernel
theorem zB_shl : ∀ v : Nat, v < 6 → zx_shl 1 (v : Int) = ((2 ^ v : Nat) : Int) ∧ 2 ^ v < 64 := by decide +kernel
theorem zB_bit : ∀ a : Nat, a < 64 → ∀ v : Nat, v < 6 → (zx_and (zx_shr (a : Int) (v : Int)) 1 = 0 ↔ Nat.testBit a v = false) := by decide +kernel
theorem zB_clr : ∀ a : Nat, a < 64 → ∀ v : Nat, v < 6 → zx_and (a : Int) (zx_xor (zx_shl 1 (v : Int)) (-1)) = ((a &&& (63 - 2 ^ v) : Nat) : Int) ∧ a &&& (63 - 2 ^ v) < 64 := by decide +kernel
theorem zB_not : ∀ g : Nat, g < 64 → zx_and 63 (zx_xor (g : Int) (-1)) = ((63 - g : Nat) : Int) := by decide +kernel
theorem zB_self : ∀ a : Nat, a < 64 → zx_and (a : Int) (a : Int) = (a : Int) ∧ zx_or (a : Int) 0 = (a : Int) ∧ zx_or 0 (a : Int) = (a : Int) := by decide +kernel
/-- an operand's bit -/
def zob (o : Int) : Nat := if o < 100 then 0 else 2 ^ (o - 100).toNat
theorem zob_b {o : Int} (ho : o < 106) : zob o < 64 := by
  unfold zob
  split
  · omega
  · exact (zB_shl _ (by omega)).2
theorem zob_e {o : Int} (ho : 100 ≤ o ∧ o < 106) : zx_shl 1 (o - 100) = (zob o : Int) := by
  have := (zB_shl (o - 100).toNat (by omega)).1
  rw [Int.toNat_of_nonneg (by omega)] at this
  rw [this, zob, if_neg (by omega)]
/-- whether an operand is one of u -/
def zub (u : Nat) (o : Int) : Bool := decide (100 ≤ o) && Nat.testBit u (o - 100).toNat
/-- how many bits -/
def zpc (u : Nat) : Nat := u % 2 + u / 2 % 2 + u / 4 % 2 + u / 8 % 2 + u / 16 % 2 + u / 32 % 2
theorem zpc_or : ∀ u : Nat, u < 64 → ∀ v : Nat, v < 6 → u ||| 2 ^ v = u ∨ zpc (u ||| 2 ^ v) = zpc u + 1 := by decide +kernel
theorem zpc_le (u : Nat) : zpc u ≤ 6 := by
  unfold zpc
  omega
theorem zB_ob : ∀ u : Nat, u < 64 → ∀ a : Nat, a < 6 → ∀ b : Nat, b < 6 → ((2 ^ a &&& u = 0 ↔ Nat.testBit u a = false) ∧ ((2 ^ a ||| 2 ^ b) &&& u = 0 ↔ (Nat.testBit u a = false ∧ Nat.testBit u b = false))) := by decide +kernel
theorem zub_or {u : Nat} (hu : u < 64) {a b : Int} (ha : a < 106) (hb : b < 106) : ((zob a ||| zob b) &&& u = 0) ↔ (zub u a = false ∧ zub u b = false) := by
  unfold zob zub
  by_cases h1 : a < 100 <;> by_cases h2 : b < 100
  · simp [h1, h2, show ¬ 100 ≤ a by omega, show ¬ 100 ≤ b by omega]
  · have := (zB_ob u hu (b - 100).toNat (by omega) 0 (by omega)).1
    simp [h1, h2, show ¬ 100 ≤ a by omega, show 100 ≤ b by omega, this]
  · have := (zB_ob u hu (a - 100).toNat (by omega) 0 (by omega)).1
    simp [h1, h2, show 100 ≤ a by omega, show ¬ 100 ≤ b by omega, this]
  · have := (zB_ob u hu (a - 100).toNat (by omega) (b - 100).toNat (by omega)).2
    simp [h1, h2, show 100 ≤ a by omega, show 100 ≤ b by omega, this]
def zuk1 (t : Nat → Int) (u : Nat) : Nat := if t 0 = 0 ∧ (zub u (t 2) = true ∨ zub u (t 4) = true) then u ||| 2 ^ (t 1).toNat else u
def zukp (S : Nat → Nat → Int) (n u : Nat) : Nat := zit (fun i u => zuk1 (S i) u) n u
theorem zuk1_g {t : Nat → Int} (ht : zWS t) {u : Nat} (hu : u < 64) : zuk1 t u < 64 ∧ (zuk1 t u = u ∨ zpc (zuk1 t u) = zpc u + 1) := by
  unfold zuk1
  unfold zWS at ht
  split
  · have h1 : (t 1).toNat < 6 := by omega
    exact ⟨(zB_or u hu _ (zB_shl _ h1).2).2, zpc_or u hu _ h1⟩
  · exact ⟨hu, Or.inl rfl⟩
theorem zukp_g {S : Nat → Nat → Int} {u : Nat} (hu : u < 64) : ∀ n : Nat, (∀ i, i < n → zWS (S i)) → zukp S n u < 64 ∧ (zukp S n u = u ∨ zpc u < zpc (zukp S n u))
  | 0, _ => ⟨hu, Or.inl rfl⟩
  | n + 1, hs => by
    obtain ⟨a, b⟩ := zukp_g hu n (fun i hi => hs i (by omega))
    obtain ⟨c, d⟩ := zuk1_g (hs n (by omega)) a
    refine ⟨c, ?_⟩
    show zuk1 (S n) (zukp S n u) = u ∨ zpc u < zpc (zuk1 (S n) (zukp S n u))
    rcases d with d | d
    · rw [d]; exact b
    · rcases b with b | b
      · right; rw [d, b]; omega
      · right; rw [d]; omega
/-- growing, up to a bound: it stands still -/
theorem zfix_m {α : Type} {f : α → α} {x : α} {n : Nat} (hs : f (zit (fun _ y => f y) n x) = zit (fun _ y => f y) n x) : ∀ m, zit (fun _ y => f y) (n + m) x = zit (fun _ y => f y) n x
  | 0 => rfl
  | m + 1 => by
    show f (zit (fun _ y => f y) (n + m) x) = _
    rw [zfix_m hs m, hs]
theorem zfix_n {α : Type} {f : α → α} {x : α} {μ : α → Nat} (hg : ∀ n, f (zit (fun _ y => f y) n x) = zit (fun _ y => f y) n x ∨ μ (zit (fun _ y => f y) n x) < μ (f (zit (fun _ y => f y) n x))) : ∀ n, f (zit (fun _ y => f y) n x) = zit (fun _ y => f y) n x ∨ n ≤ μ (zit (fun _ y => f y) n x)
  | 0 => Or.inr (Nat.zero_le _)
  | n + 1 => by
    rcases zfix_n hg n with h | h
    · left
      show f (f (zit (fun _ y => f y) n x)) = f (zit (fun _ y => f y) n x)
      rw [h, h]
    · rcases hg n with h2 | h2
      · left
        show f (f (zit (fun _ y => f y) n x)) = f (zit (fun _ y => f y) n x)
        rw [h2, h2]
      · right
        show n + 1 ≤ μ (f (zit (fun _ y => f y) n x))
        omega
theorem zfix {α : Type} {f : α → α} {x : α} {μ : α → Nat} {M N p : Nat} (hg : ∀ n, f (zit (fun _ y => f y) n x) = zit (fun _ y => f y) n x ∨ μ (zit (fun _ y => f y) n x) < μ (f (zit (fun _ y => f y) n x))) (hM : ∀ n, μ (zit (fun _ y => f y) n x) ≤ M) (hN : M ≤ N) (hp : f (zit (fun _ y => f y) p x) = zit (fun _ y => f y) p x) : zit (fun _ y => f y) p x = zit (fun _ y => f y) N x := by
  have hN2 : f (zit (fun _ y => f y) N x) = zit (fun _ y => f y) N x := by
    rcases hg N with h | h
    · exact h
    · rcases zfix_n hg N with h2 | h2
      · exact h2
      · have h3 := hM (N + 1)
        have h3 : μ (f (zit (fun _ y => f y) N x)) ≤ M := h3
        omega
  by_cases hpn : p ≤ N
  · have := zfix_m hp (N - p)
    rw [show p + (N - p) = N by omega] at this
    exact this.symm
  · have := zfix_m hN2 (p - N)
    rw [show N + (p - N) = p by omega] at this
    exact this
/-- READ ahead of a step -/
def zrs1 (t : Nat → Int) (x : Nat) : Nat := (if t 0 = 0 then x &&& (63 - 2 ^ (t 1).toNat) else x) ||| (zob (t 2) ||| zob (t 4))
def zrs (T : Nat → Nat → Int) : Nat → Nat → Nat
  | 0, x => x
  | n + 1, x => zrs T n (zrs1 (T n) x)
def zen (a : Nat → Int) (x : Nat → Nat) : Nat := (if a 2 = 2 then 0 else x (a 3).toNat) ||| (if a 2 = 1 then x (a 4).toNat ||| 2 ^ (a 5).toNat else 0)
def zaf (W : zW) (x : Nat → Nat) (b : Nat) : Nat := zrs (W.2.2 b) (W.2.1 b 1).toNat (zen (W.2.1 b) x)
def zup (x : Nat → Nat) (b y : Nat) : Nat → Nat := fun c => if c = b then y else x c
/-- a pass over the places below n, from the last -/
def zap (W : zW) : Nat → (Nat → Nat) → Nat → Nat
  | 0, x => x
  | n + 1, x => zap W n (zup x n (zaf W x n))
def zx0 : Nat → Nat := fun _ => 0
def zah (W : zW) : Nat → Nat := zit (fun _ x => zap W W.1 x) 60 zx0
/-- within -/
def zle (a b : Nat) : Prop := ∀ v, Nat.testBit a v = true → Nat.testBit b v = true
theorem zle_rf (a : Nat) : zle a a := fun _ h => h
theorem zle_tr {a b c : Nat} (h : zle a b) (k : zle b c) : zle a c := fun v e => k v (h v e)
theorem zle_or {a b c d : Nat} (h : zle a b) (k : zle c d) : zle (a ||| c) (b ||| d) := by
  intro v e
  rw [Nat.testBit_or, Bool.or_eq_true] at e ⊢
  exact e.imp (h v) (k v)
theorem zle_and {a b c : Nat} (h : zle a b) : zle (a &&& c) (b &&& c) := by
  intro v e
  rw [Nat.testBit_and, Bool.and_eq_true] at e ⊢
  exact ⟨h v e.1, e.2⟩
theorem zle_eq {a b : Nat} (h : zle a b) : a ||| b = b := by
  apply Nat.eq_of_testBit_eq
  intro v
  rw [Nat.testBit_or]
  cases e : Nat.testBit a v
  · simp
  · rw [h v e]; rfl
theorem zpc_lt : ∀ a : Nat, a < 64 → ∀ b : Nat, b < 64 → a ||| b = b → a = b ∨ zpc a < zpc b := by decide +kernel
theorem zrs1_m {t : Nat → Int} {x y : Nat} (h : zle x y) : zle (zrs1 t x) (zrs1 t y) := by
  unfold zrs1
  refine zle_or ?_ (zle_rf _)
  split
  · exact zle_and h
  · exact h
theorem zrs_m {T : Nat → Nat → Int} : ∀ (n : Nat) {x y : Nat}, zle x y → zle (zrs T n x) (zrs T n y)
  | 0, _, _, h => h
  | n + 1, _, _, h => zrs_m n (zrs1_m h)
theorem zen_m {a : Nat → Int} {x y : Nat → Nat} (h : ∀ c, zle (x c) (y c)) : zle (zen a x) (zen a y) := by
  unfold zen
  refine zle_or ?_ ?_
  · split
    · exact zle_rf _
    · exact h _
  · split
    · exact zle_or (h _) (zle_rf _)
    · exact zle_rf _
theorem zaf_m {W : zW} {x y : Nat → Nat} {b : Nat} (h : ∀ c, zle (x c) (y c)) : zle (zaf W x b) (zaf W y b) := zrs_m _ (zen_m h)
theorem zrs1_b {t : Nat → Int} (ht : zWS t) {x : Nat} (hx : x < 64) : zrs1 t x < 64 := by
  unfold zrs1
  unfold zWS at ht
  have o : zob (t 2) ||| zob (t 4) < 64 := (zB_or _ (zob_b (o := t 2) (by omega)) _ (zob_b (o := t 4) (by omega))).2
  refine (zB_or _ ?_ _ o).2
  split
  · exact (zB_clr x hx _ (by omega)).2
  · exact hx
theorem zrs_b {T : Nat → Nat → Int} : ∀ (n : Nat) {x : Nat}, (∀ i, i < n → zWS (T i)) → x < 64 → zrs T n x < 64
  | 0, _, _, h => h
  | n + 1, _, ht, h => zrs_b n (fun i hi => ht i (by omega)) (zrs1_b (ht n (by omega)) h)
theorem zen_b {n : Nat} {a : Nat → Int} (ha : zWE n a) {x : Nat → Nat} (hx : ∀ c, x c < 64) : zen a x < 64 := by
  unfold zen
  unfold zWE at ha
  refine (zB_or _ ?_ _ ?_).2
  · split
    · omega
    · exact hx _
  · split
    · exact (zB_or _ (hx _) _ (zB_shl _ (by omega)).2).2
    · omega
theorem zaf_b {W : zW} (hw : zWw W) {x : Nat → Nat} (hx : ∀ c, x c < 64) {b : Nat} (hb : b < W.1) : zaf W x b < 64 := by
  have h := hw.2 b hb
  exact zrs_b _ (fun i hi => h.2.2 i (by omega)) (zen_b h.2.1 hx)
/-- all eight together -/
def zmu (x : Nat → Nat) : Nat := zit (fun b s => s + zpc (x b)) 8 0
theorem zmu_le (x : Nat → Nat) : zmu x ≤ 48 := by
  have h := fun b => zpc_le (x b)
  have h0 := h 0
  have h1 := h 1
  have h2 := h 2
  have h3 := h 3
  have h4 := h 4
  have h5 := h 5
  have h6 := h 6
  have h7 := h 7
  simp only [zmu, zit]
  omega
theorem zmu_up {x : Nat → Nat} {b y : Nat} (hb : b < 8) (hy : zpc (x b) < zpc y) : zmu x < zmu (zup x b y) := by
  have hc : b = 0 ∨ b = 1 ∨ b = 2 ∨ b = 3 ∨ b = 4 ∨ b = 5 ∨ b = 6 ∨ b = 7 := by omega
  rcases hc with rfl | rfl | rfl | rfl | rfl | rfl | rfl | rfl <;> simp [zmu, zit, zup] <;> omega
/-- below its own image -/
def zpre (W : zW) (x : Nat → Nat) : Prop := (∀ c, x c < 64) ∧ ∀ b, b < W.1 → zle (x b) (zaf W x b)
theorem zup_same {x : Nat → Nat} {b : Nat} : zup x b (x b) = x := by
  funext c
  unfold zup
  split
  · rename_i h; rw [h]
  · rfl
theorem zup_g {W : zW} (hw : zWw W) (h8 : W.1 ≤ 8) {x : Nat → Nat} (hp : zpre W x) {b : Nat} (hb : b < W.1) : zpre W (zup x b (zaf W x b)) ∧ (zaf W x b = x b ∨ zmu x < zmu (zup x b (zaf W x b))) := by
  have hl : ∀ c, zle (x c) (zup x b (zaf W x b) c) := by
    intro c
    unfold zup
    split
    · rename_i h; rw [h]; exact hp.2 b hb
    · exact zle_rf _
  have hb1 := zaf_b hw hp.1 hb
  refine ⟨⟨fun c => ?_, fun c hc => ?_⟩, ?_⟩
  · unfold zup
    split
    · exact hb1
    · exact hp.1 c
  · have hm := zaf_m (W := W) (b := c) hl
    by_cases e : c = b
    · subst e
      show zle (if c = c then _ else _) _
      rw [if_pos rfl]
      exact hm
    · show zle (if c = b then _ else x c) _
      rw [if_neg e]
      exact zle_tr (hp.2 c hc) hm
  · rcases zpc_lt _ (hp.1 b) _ hb1 (zle_eq (hp.2 b hb)) with h | h
    · left; exact h.symm
    · right; exact zmu_up (by omega) h
theorem zap_g {W : zW} (hw : zWw W) (h8 : W.1 ≤ 8) : ∀ (n : Nat) {x : Nat → Nat}, n ≤ W.1 → zpre W x → zpre W (zap W n x) ∧ (zap W n x = x ∨ zmu x < zmu (zap W n x))
  | 0, _, _, hp => ⟨hp, Or.inl rfl⟩
  | n + 1, x, hn, hp => by
    obtain ⟨a, b⟩ := zup_g hw h8 hp (show n < W.1 by omega)
    obtain ⟨c, d⟩ := zap_g hw h8 n (show n ≤ W.1 by omega) a
    refine ⟨c, ?_⟩
    show zap W n (zup x n (zaf W x n)) = x ∨ zmu x < zmu (zap W n (zup x n (zaf W x n)))
    rcases b with b | b
    · rw [b, zup_same] at d ⊢
      exact d
    · rcases d with d | d
      · right; rw [d]; exact b
      · right; omega
theorem zpre0 {W : zW} (hw : zWw W) : zpre W zx0 := ⟨fun _ => by show 0 < 64; omega, fun b hb v h => by
  have h : Nat.testBit 0 v = true := h
  rw [Nat.zero_testBit] at h
  cases h⟩
theorem zpre_n {W : zW} (hw : zWw W) (h8 : W.1 ≤ 8) : ∀ n, zpre W (zit (fun _ x => zap W W.1 x) n zx0)
  | 0 => zpre0 hw
  | n + 1 => (zap_g hw h8 W.1 (Nat.le_refl _) (zpre_n hw h8 n)).1
theorem zah_b {W : zW} (hw : zWw W) (h8 : W.1 ≤ 8) (c : Nat) : zah W c < 64 := (zpre_n hw h8 60).1 c
/-- UNKNOWN -/
def zu0 (g : Int → Int) : Nat := zit (fun v u => if g v < 0 then u ||| 2 ^ v else u) 6 0
def zgn (g : Int → Int) : Nat := zit (fun v u => if g v < 0 then u else u ||| 2 ^ v) 6 0
def zuk (S : Nat → Nat → Int) (n : Nat) (g : Int → Int) : Nat := zit (fun _ u => zukp S n u) 6 (zu0 g)
theorem zu0_gn (g : Int → Int) : zu0 g = 63 - zgn g ∧ zu0 g < 64 ∧ zgn g < 64 := by
  simp only [zu0, zgn, zit]
  by_cases h0 : g ((0 : Nat) : Int) < 0 <;> by_cases h1 : g ((1 : Nat) : Int) < 0 <;> by_cases h2 : g ((2 : Nat) : Int) < 0 <;> by_cases h3 : g ((3 : Nat) : Int) < 0 <;> by_cases h4 : g ((4 : Nat) : Int) < 0 <;> by_cases h5 : g ((5 : Nat) : Int) < 0 <;> simp only [h0, h1, h2, h3, h4, h5, if_true, if_false] <;> decide
theorem zuk_n {S : Nat → Nat → Int} {n : Nat} (hs : ∀ i, i < n → zWS (S i)) {u : Nat} (hu : u < 64) : ∀ k, zit (fun _ u => zukp S n u) k u < 64
  | 0 => hu
  | k + 1 => (zukp_g (zuk_n hs hu k) n hs).1
theorem zuk_b {S : Nat → Nat → Int} {n : Nat} (hs : ∀ i, i < n → zWS (S i)) (g : Int → Int) : zuk S n g < 64 := zuk_n hs (zu0_gn g).2.1 6
/-- where the class's rounds stand still -/
theorem zuk_fix {S : Nat → Nat → Int} {n : Nat} (hs : ∀ i, i < n → zWS (S i)) {g : Int → Int} {p : Nat} (hp : zukp S n (zit (fun _ u => zukp S n u) p (zu0 g)) = zit (fun _ u => zukp S n u) p (zu0 g)) : zit (fun _ u => zukp S n u) p (zu0 g) = zuk S n g :=
  zfix (μ := zpc) (M := 6) (fun k => (zukp_g (zuk_n hs (zu0_gn g).2.1 k) n hs).2) (fun _ => zpc_le _) (Nat.le_refl _) hp
theorem zah_fix {W : zW} (hw : zWw W) (h8 : W.1 ≤ 8) {p : Nat} (hp : zap W W.1 (zit (fun _ x => zap W W.1 x) p zx0) = zit (fun _ x => zap W W.1 x) p zx0) : zit (fun _ x => zap W W.1 x) p zx0 = zah W :=
  zfix (f := fun x => zap W W.1 x) (μ := zmu) (M := 48) (N := 60) (fun k => (zap_g hw h8 W.1 (Nat.le_refl _) (zpre_n hw h8 k)).2) (fun _ => zmu_le _) (by omega) hp

