/-! POINTS, pure -/
/-- points: how many, their blocks, what is held, who leads to them, their numbers, what is left -/
abbrev zPS : Type := Nat × (Nat → Nat) × (Nat → Int → Int) × (Nat → Int) × (Nat → Nat → Int) × (Nat → Nat → Nat → Int)
def zlk (P : zPS) (b : Nat) (f : Int → Int) (k : Nat) : Bool := Nat.beq (P.2.1 k) b && decide (P.2.2.1 k 0 = f 0) && decide (P.2.2.1 k 1 = f 1) && decide (P.2.2.1 k 2 = f 2) && decide (P.2.2.1 k 3 = f 3) && decide (P.2.2.1 k 4 = f 4) && decide (P.2.2.1 k 5 = f 5)
theorem zlk_iff {P : zPS} {b : Nat} {f : Int → Int} {k : Nat} : zlk P b f k = true ↔ P.2.1 k = b ∧ ∀ v, 0 ≤ v → v < 6 → P.2.2.1 k v = f v := by
  unfold zlk
  simp only [Bool.and_eq_true, decide_eq_true_eq]
  constructor
  · rintro ⟨⟨⟨⟨⟨⟨a, b⟩, c⟩, d⟩, e⟩, f⟩, g⟩
    refine ⟨Nat.eq_of_beq_eq_true a, fun v h0 h6 => ?_⟩
    rcases (show v = 0 ∨ v = 1 ∨ v = 2 ∨ v = 3 ∨ v = 4 ∨ v = 5 by omega) with rfl | rfl | rfl | rfl | rfl | rfl <;> assumption
  · rintro ⟨a, h⟩
    refine ⟨⟨⟨⟨⟨⟨?_, h 0 (by omega) (by omega)⟩, h 1 (by omega) (by omega)⟩, h 2 (by omega) (by omega)⟩, h 3 (by omega) (by omega)⟩, h 4 (by omega) (by omega)⟩, h 5 (by omega) (by omega)⟩
    rw [a]
    exact Nat.beq_refl b
/-- the first that is alike; n: none -/
def zfd (P : zPS) (b : Nat) (f : Int → Int) : Nat → Nat
  | 0 => 0
  | k + 1 => if zfd P b f k < k then zfd P b f k else if zlk P b f k = true then k else k + 1
theorem zfd_no {P : zPS} {b : Nat} {f : Int → Int} : ∀ n, (∀ j, j < n → zlk P b f j = false) → zfd P b f n = n
  | 0, _ => rfl
  | n + 1, h => by
    rw [zfd, zfd_no n (fun j hj => h j (by omega)), if_neg (by omega), if_neg (by rw [h n (by omega)]; decide)]
theorem zfd_hit {P : zPS} {b : Nat} {f : Int → Int} {k : Nat} (h0 : ∀ j, j < k → zlk P b f j = false) (h1 : zlk P b f k = true) : ∀ n, k < n → zfd P b f n = k
  | 0, h => by omega
  | n + 1, h => by
    by_cases e : k = n
    · subst e
      rw [zfd, zfd_no k h0, if_neg (by omega), if_pos h1]
    · rw [zfd, zfd_hit h0 h1 n (by omega), if_pos (by omega)]
/-- a point is met: found again, or new, or one too many -/
def zme (P : zPS) (b : Nat) (f : Int → Int) (m : Int) : zPS × Nat × Bool :=
  if zfd P b f P.1 < P.1 then ((P.1, P.2.1, P.2.2.1, (fun j => if j = zfd P b f P.1 ∧ P.2.2.2.1 j = -4 then m else P.2.2.2.1 j), P.2.2.2.2.1, P.2.2.2.2.2), zfd P b f P.1, false)
  else if P.1 = 40 then (P, 0, true)
  else ((P.1 + 1, (fun j => if j = P.1 then b else P.2.1 j), (fun j => if j = P.1 then f else P.2.2.1 j), (fun j => if j = P.1 then m else P.2.2.2.1 j), P.2.2.2.2.1, P.2.2.2.2.2), P.1, false)
/-- what is told apart at a block -/
def ztd (G : zG) (f : Int → Int) (b : Nat) : Int → Int := fun v => if Nat.testBit (zUG G) v.toNat = false ∧ (G.2.2.2.2.2 = 0 ∨ Nat.testBit (zAG G b) v.toNat = true) then f v else 0
/-- an operand as it is left -/
def zlo (u : Nat) (f : Int → Int) (o : Int) : Int := if 100 ≤ o ∧ Nat.testBit u (o - 100).toNat = false then f (o - 100) else o
def zns (u : Nat) (f : Int → Int) (t : Nat → Int) : Nat → Int := fun w => if w = 2 then zlo u f (t 2) else if w = 4 then zlo u f (t 4) else t w
/-- what is held, how much is left, what is left -/
abbrev zLs : Type := (Int → Int) × Nat × (Nat → Nat → Int)
def zlv1 (u : Nat) (t : Nat → Int) (s : zLs) : zLs := if t 0 = 0 ∧ Nat.testBit u (t 1).toNat = false then ((fun j => if j = t 1 then zres (t 3) (zlo u s.1 (t 2)) (zlo u s.1 (t 4)) else s.1 j), s.2.1, s.2.2) else (s.1, s.2.1 + 1, fun i => if i = s.2.1 then zns u s.1 t else s.2.2 i)
def zlvs (u : Nat) (T : Nat → Nat → Int) (n : Nat) (s : zLs) : zLs := zit (fun i s => zlv1 u (T i) s) n s
def zps (G : zG) (P : zPS) (k : Nat) : zLs := zlvs (zUG G) ((zGW G).2.2 (P.2.1 k)) (G.2.1 (P.2.1 k) 1).toNat (P.2.2.1 k, 0, P.2.2.2.2.2 k)
def zput (P : zPS) (k : Nat) (s : zLs) (e o t y : Int) : zPS := (P.1, P.2.1, P.2.2.1, P.2.2.2.1, (fun j w => if j = k then (if w = 1 then (s.2.1 : Int) else if w = 2 then e else if w = 3 then o else if w = 4 then t else y) else P.2.2.2.2.1 j w), fun j => if j = k then s.2.2 else P.2.2.2.2.2 j)
def zm1 (G : zG) (P : zPS) (k : Nat) (s : zLs) (b : Nat) : zPS × Nat × Bool := zme P b (ztd G s.1 b) (k : Int)
/-- a point is gone through -/
def zpe (G : zG) (P : zPS) (k : Nat) (s : zLs) (a : Nat → Int) : zPS × Bool :=
  if a 2 = 2 then (zput P k s 2 (-4) (-4) (-4), false)
  else if a 2 = 1 ∧ Nat.testBit (zUG G) (a 5).toNat = true then (zput (zm1 G (zm1 G P k s (a 3).toNat).1 k s (a 4).toNat).1 k s 1 ((zm1 G P k s (a 3).toNat).2.1 : Int) ((zm1 G (zm1 G P k s (a 3).toNat).1 k s (a 4).toNat).2.1 : Int) (a 5), (zm1 G P k s (a 3).toNat).2.2 || (zm1 G (zm1 G P k s (a 3).toNat).1 k s (a 4).toNat).2.2)
  else (zput (zm1 G P k s (if a 2 = 0 ∨ ¬ s.1 (a 5) = 0 then a 3 else a 4).toNat).1 k s 0 ((zm1 G P k s (if a 2 = 0 ∨ ¬ s.1 (a 5) = 0 then a 3 else a 4).toNat).2.1 : Int) (-4) (-4), (zm1 G P k s (if a 2 = 0 ∨ ¬ s.1 (a 5) = 0 then a 3 else a 4).toNat).2.2)
def zpr (G : zG) (P : zPS) (k : Nat) : zPS × Bool := zpe G P k (zps G P k) (G.2.1 (P.2.1 k))
def zP0 : zPS := (0, fun _ => 0, fun _ _ => 0, fun _ => -4, fun _ _ => 0, fun _ _ _ => 0)
def zxp (G : zG) : Nat → zPS × Bool
  | 0 => ((zme zP0 0 (ztd G G.2.2.2.2.1 0) (-4)).1, false)
  | k + 1 => if (zxp G k).2 = true ∨ (zxp G k).1.1 ≤ k then zxp G k else zpr G (zxp G k).1 k
theorem zxp_st {G : zG} {k : Nat} (h : (zxp G k).2 = true ∨ (zxp G k).1.1 ≤ k) : ∀ m, zxp G (k + m) = zxp G k
  | 0 => rfl
  | m + 1 => by
    have := zxp_st h m
    show (if (zxp G (k + m)).2 = true ∨ (zxp G (k + m)).1.1 ≤ k + m then zxp G (k + m) else _) = _
    rw [this, if_pos]
    rcases h with h | h
    · exact Or.inl h
    · exact Or.inr (by omega)
theorem zxp_40 {G : zG} {k : Nat} (h : (zxp G k).2 = true ∨ (zxp G k).1.1 ≤ k) (hk : k ≤ 40) : zxp G k = zxp G 40 := by
  have := zxp_st h (40 - k)
  rw [show k + (40 - k) = 40 by omega] at this
  exact this.symm
/-- what must hold of points of which k are gone through -/
def zPo (G : zG) (P : zPS) (k : Nat) : Prop := P.1 ≤ 40 ∧ k ≤ P.1 ∧ (∀ j, j < P.1 → P.2.1 j < G.1 ∧ ∀ v, 0 ≤ v → v < 6 → 0 ≤ P.2.2.1 j v ∧ P.2.2.1 j v ≤ 99) ∧ ∀ j, j < k → (0 ≤ P.2.2.2.2.1 j 1 ∧ P.2.2.2.2.1 j 1 ≤ 24) ∧ zWE P.1 (P.2.2.2.2.1 j) ∧ ∀ i : Nat, (i : Int) < P.2.2.2.2.1 j 1 → zWS (P.2.2.2.2.2 j i)
theorem zWE.mono {n m : Nat} {a : Nat → Int} (h : zWE n a) (hm : n ≤ m) : zWE m a := by
  unfold zWE at h ⊢
  omega
/-- values -/
def zVb (f : Int → Int) : Prop := ∀ v, 0 ≤ v → v < 6 → 0 ≤ f v ∧ f v ≤ 99
theorem ztd_b {G : zG} {f : Int → Int} {b : Nat} (hf : zVb f) : zVb (ztd G f b) := by
  intro v h0 h6
  unfold ztd
  split
  · exact hf v h0 h6
  · omega
theorem zlo_b {u : Nat} {f : Int → Int} (hf : zVb f) {o : Int} (ho : 0 ≤ o ∧ o < 106) : 0 ≤ zlo u f o ∧ zlo u f o < 106 := by
  unfold zlo
  split
  · have := hf (o - 100) (by omega) (by omega)
    omega
  · exact ho
theorem zlo_k {u : Nat} {f : Int → Int} (hf : zVb f) {o : Int} (ho : 0 ≤ o ∧ o < 106) (hk : zub u o = false) : zlo u f o = zval f o ∧ 0 ≤ zlo u f o ∧ zlo u f o ≤ 99 := by
  unfold zub at hk
  unfold zlo zval
  by_cases h : 100 ≤ o
  · have h2 : Nat.testBit u (o - 100).toNat = false := by simpa [h] using hk
    rw [if_pos ⟨h, h2⟩, if_neg (by omega)]
    have := hf (o - 100) (by omega) (by omega)
    exact ⟨rfl, this.1, this.2⟩
  · rw [if_neg (by omega), if_pos (by omega)]
    exact ⟨rfl, by omega, by omega⟩
theorem zns_w {u : Nat} {f : Int → Int} (hf : zVb f) {t : Nat → Int} (ht : zWS t) : zWS (zns u f t) := by
  have e0 : zns u f t 0 = t 0 := rfl
  have e1 : zns u f t 1 = t 1 := rfl
  have e2 : zns u f t 2 = zlo u f (t 2) := rfl
  have e3 : zns u f t 3 = t 3 := rfl
  have e4 : zns u f t 4 = zlo u f (t 4) := rfl
  unfold zWS at ht ⊢
  rw [e0, e1, e2, e3, e4]
  rcases ht with ⟨a, b, c, d, e⟩ | ⟨a, b, c, d, e⟩
  · exact Or.inl ⟨a, b, zlo_b hf c, d, zlo_b hf e⟩
  · refine Or.inr ⟨a, b, zlo_b hf c, d, ?_⟩
    rw [zlo, if_neg (by omega)]
    exact e
/-- a step of which the target is known has operands that are known -/
def zKn (u : Nat) (t : Nat → Int) : Prop := t 0 = 0 → Nat.testBit u (t 1).toNat = false → zub u (t 2) = false ∧ zub u (t 4) = false
/-- bounds of what is left -/
def zLo (s : zLs) (n : Nat) : Prop := zVb s.1 ∧ s.2.1 ≤ n ∧ ∀ i, i < s.2.1 → zWS (s.2.2 i)
theorem zlv1_b {u : Nat} {t : Nat → Int} (ht : zWS t) (hk : zKn u t) {s : zLs} {n : Nat} (hs : zLo s n) : zLo (zlv1 u t s) (n + 1) := by
  obtain ⟨a, b, c⟩ := hs
  unfold zlv1
  split
  · rename_i h
    obtain ⟨k2, k4⟩ := hk h.1 h.2
    refine ⟨fun v h0 h6 => ?_, by show s.2.1 ≤ n + 1; omega, c⟩
    show 0 ≤ (if v = t 1 then _ else s.1 v) ∧ (if v = t 1 then _ else s.1 v) ≤ 99
    unfold zWS at ht
    split
    · exact zres_b (zlo_k a (by omega) k2).2 (zlo_k a (by omega) k4).2
    · exact a v h0 h6
  · refine ⟨a, by show s.2.1 + 1 ≤ n + 1; omega, fun i hi => ?_⟩
    have hi : i < s.2.1 + 1 := hi
    show zWS (if i = s.2.1 then _ else s.2.2 i)
    split
    · exact zns_w a ht
    · exact c i (by omega)
theorem zlvs_b {u : Nat} {T : Nat → Nat → Int} {s : zLs} (hs : zLo s 0) : ∀ n : Nat, (∀ i, i < n → zWS (T i) ∧ zKn u (T i)) → zLo (zlvs u T n s) n
  | 0, _ => hs
  | n + 1, h => zlv1_b (h n (by omega)).1 (h n (by omega)).2 (zlvs_b hs n (fun i hi => h i (by omega)))
/-- what the division has found stands still -/
theorem zukp_m {S : Nat → Nat → Int} {u : Nat} (hu : u < 64) : ∀ (n m : Nat), (∀ i, i < n + m → zWS (S i)) → zpc (zukp S n u) ≤ zpc (zukp S (n + m) u)
  | n, 0, _ => Nat.le_refl _
  | n, m + 1, h => by
    have h1 := zukp_m hu n m (fun i hi => h i (by omega))
    have h2 := (zukp_g hu (n + m) (fun i hi => h i (by omega))).1
    have h3 := (zuk1_g (h (n + m) (by omega)) h2).2
    show _ ≤ zpc (zuk1 (S (n + m)) (zukp S (n + m) u))
    rcases h3 with h3 | h3
    · rw [h3]; exact h1
    · omega
theorem zukp_fx {S : Nat → Nat → Int} {n u : Nat} (hu : u < 64) (hs : ∀ i, i < n → zWS (S i)) (h : zukp S n u = u) {i : Nat} (hi : i < n) : zuk1 (S i) u = u := by
  have key : ∀ j, j ≤ n → zukp S j u = u := by
    intro j hj
    rcases (zukp_g hu j (fun x hx => hs x (by omega))).2 with h1 | h1
    · exact h1
    · have h2 := zukp_m hu j (n - j) (fun x hx => hs x (by omega))
      rw [show j + (n - j) = n by omega, h] at h2
      omega
  have h1 := key i (by omega)
  have h2 := key (i + 1) (by omega)
  have h2 : zuk1 (S i) (zukp S i u) = u := h2
  rw [h1] at h2
  exact h2
theorem zUG_fx {G : zG} (hw : zWf G) : zukp G.2.2.2.1 G.2.2.1 (zUG G) = zUG G := by
  have hs := hw.2.2.2.1
  have hu := (zu0_gn G.2.2.2.2.1).2.1
  rcases (zukp_g (zUG_b hw) G.2.2.1 hs).2 with h | h
  · exact h
  · rcases zfix_n (μ := zpc) (f := fun u => zukp G.2.2.2.1 G.2.2.1 u) (x := zu0 G.2.2.2.2.1) (fun k => (zukp_g (zuk_n hs hu k) G.2.2.1 hs).2) 6 with h2 | h2
    · exact h2
    · have h3 : 6 ≤ zpc (zUG G) := h2
      have h4 := zpc_le (zukp G.2.2.2.1 G.2.2.1 (zUG G))
      omega
theorem zKn_G {G : zG} (hw : zWf G) {i : Nat} (hi : i < G.2.2.1) : zKn (zUG G) (G.2.2.2.1 i) := by
  intro h0 h1
  have hf := zukp_fx (zUG_b hw) hw.2.2.2.1 (zUG_fx hw) hi
  unfold zuk1 at hf
  cases e2 : zub (zUG G) (G.2.2.2.1 i 2) <;> cases e4 : zub (zUG G) (G.2.2.2.1 i 4)
  · exact ⟨rfl, rfl⟩
  all_goals
    exfalso
    rw [if_pos ⟨h0, by simp [e2, e4]⟩] at hf
    have : Nat.testBit (zUG G ||| 2 ^ (G.2.2.2.1 i 1).toNat) (G.2.2.2.1 i 1).toNat = true := by
      rw [Nat.testBit_or, Nat.testBit_two_pow_self]
      simp
    rw [hf, h1] at this
    cases this
theorem zps_b {G : zG} (hw : zWf G) {P : zPS} {k : Nat} (hb : P.2.1 k < G.1) (hv : zVb (P.2.2.1 k)) : zLo (zps G P k) 24 := by
  obtain ⟨c1, c2, c3, c4⟩ := hw.2.2.1 _ hb
  have hn := hw.2.1
  have := zlvs_b (u := zUG G) (T := (zGW G).2.2 (P.2.1 k)) (s := (P.2.2.1 k, 0, P.2.2.2.2.2 k)) ⟨hv, Nat.le_refl _, fun i hi => by have hi : i < 0 := hi; omega⟩ (G.2.1 (P.2.1 k) 1).toNat (fun i hi => by
    have hl : (G.2.1 (P.2.1 k) 0).toNat + i < G.2.2.1 := by omega
    exact ⟨hw.2.2.2.1 _ hl, zKn_G hw hl⟩)
  exact ⟨this.1, by have := this.2.1; show (zps G P k).2.1 ≤ 24; unfold zps; omega, this.2.2⟩
