/-! POINTS, pure: what holds of them -/
theorem zme_o {G : zG} {P : zPS} {k : Nat} (ho : zPo G P k) {b : Nat} (hb : b < G.1) {f : Int → Int} (hf : zVb f) (m : Int) : zPo G (zme P b f m).1 k ∧ P.1 ≤ (zme P b f m).1.1 ∧ ((zme P b f m).2.2 = false → (zme P b f m).2.1 < (zme P b f m).1.1) ∧ (zme P b f m).1.2.2.2.2 = P.2.2.2.2 ∧ ∀ j, j < P.1 → (zme P b f m).1.2.1 j = P.2.1 j ∧ (zme P b f m).1.2.2.1 j = P.2.2.1 j := by
  obtain ⟨o1, o2, o3, o4⟩ := ho
  unfold zme
  split
  · rename_i h
    exact ⟨⟨o1, o2, o3, o4⟩, Nat.le_refl _, fun _ => h, rfl, fun j _ => ⟨rfl, rfl⟩⟩
  · split
    · exact ⟨⟨o1, o2, o3, o4⟩, Nat.le_refl _, (fun h => by cases h), rfl, fun j _ => ⟨rfl, rfl⟩⟩
    · refine ⟨⟨by show P.1 + 1 ≤ 40; omega, by show k ≤ P.1 + 1; omega, fun j hj => ?_, fun j hj => ?_⟩, Nat.le_succ _, fun _ => Nat.lt_succ_self _, rfl, fun j hj => ⟨if_neg (by omega), if_neg (by omega)⟩⟩
      · have hj : j < P.1 + 1 := hj
        show (if j = P.1 then b else P.2.1 j) < G.1 ∧ ∀ v, 0 ≤ v → v < 6 → 0 ≤ (if j = P.1 then f else P.2.2.1 j) v ∧ (if j = P.1 then f else P.2.2.1 j) v ≤ 99
        by_cases e : j = P.1
        · rw [if_pos e, if_pos e]; exact ⟨hb, hf⟩
        · rw [if_neg e, if_neg e]; exact o3 j (by omega)
      · obtain ⟨a, c, d⟩ := o4 j hj
        exact ⟨a, c.mono (Nat.le_succ _), d⟩
theorem zput_o {G : zG} {P : zPS} {k : Nat} (ho : zPo G P k) (hk : k < P.1) {s : zLs} (hs : zLo s 24) {e o t y : Int} (he : (e = 0 ∧ (0 ≤ o ∧ o < (P.1 : Int)) ∧ t = -4 ∧ y = -4) ∨ (e = 1 ∧ (0 ≤ o ∧ o < (P.1 : Int)) ∧ (0 ≤ t ∧ t < (P.1 : Int)) ∧ 0 ≤ y ∧ y < 6) ∨ (e = 2 ∧ o = -4 ∧ t = -4 ∧ y = -4)) : zPo G (zput P k s e o t y) (k + 1) := by
  obtain ⟨o1, o2, o3, o4⟩ := ho
  refine ⟨o1, hk, o3, fun j hj => ?_⟩
  show (0 ≤ (if j = k then _ else _ : Int) ∧ (if j = k then _ else _ : Int) ≤ 24) ∧ zWE P.1 (fun w => if j = k then _ else _) ∧ ∀ i : Nat, (i : Int) < (if j = k then _ else _ : Int) → zWS ((if j = k then s.2.2 else P.2.2.2.2.2 j) i)
  by_cases e : j = k
  · simp only [if_pos e]
    obtain ⟨s1, s2, s3⟩ := hs
    refine ⟨by simp; omega, he, fun i hi => s3 i (by simp at hi; omega)⟩
  · simp only [if_neg e]
    exact o4 j (by omega)
theorem zm1_o {G : zG} {P : zPS} {k : Nat} (ho : zPo G P k) {b : Nat} (hb : b < G.1) {s : zLs} (hs : zVb s.1) : zPo G (zm1 G P k s b).1 k ∧ P.1 ≤ (zm1 G P k s b).1.1 ∧ ((zm1 G P k s b).2.2 = false → (zm1 G P k s b).2.1 < (zm1 G P k s b).1.1) ∧ (zm1 G P k s b).1.2.2.2.2 = P.2.2.2.2 ∧ ∀ j, j < P.1 → (zm1 G P k s b).1.2.1 j = P.2.1 j ∧ (zm1 G P k s b).1.2.2.1 j = P.2.2.1 j := zme_o ho hb (ztd_b hs) _
theorem zpe_o {G : zG} {P : zPS} {k : Nat} (ho : zPo G P k) (hk : k < P.1) {s : zLs} (hs : zLo s 24) {a : Nat → Int} (ha : zWE G.1 a) (hv : (zpe G P k s a).2 = false) : zPo G (zpe G P k s a).1 (k + 1) := by
  unfold zpe at hv ⊢
  unfold zWE at ha
  by_cases e2 : a 2 = 2
  · rw [if_pos e2]
    exact zput_o ho hk hs (by omega)
  · rw [if_neg e2] at hv ⊢
    by_cases e1 : a 2 = 1 ∧ Nat.testBit (zUG G) (a 5).toNat = true
    · rw [if_pos e1] at hv ⊢
      obtain ⟨p1, p2, p3, -, -⟩ := zm1_o ho (b := (a 3).toNat) (by omega) hs.1
      obtain ⟨q1, q2, q3, -, -⟩ := zm1_o p1 (b := (a 4).toNat) (by omega) hs.1
      have hv := Bool.or_eq_false_iff.mp hv
      have h1 := p3 hv.1
      have h2 := q3 hv.2
      exact zput_o q1 (by omega) hs (by omega)
    · rw [if_neg e1] at hv ⊢
      have hb : (if a 2 = 0 ∨ ¬ s.1 (a 5) = 0 then a 3 else a 4).toNat < G.1 := by split <;> omega
      obtain ⟨p1, p2, p3, -, -⟩ := zm1_o ho hb hs.1
      have h1 := p3 hv
      exact zput_o p1 (by omega) hs (by omega)
theorem zpr_o {G : zG} (hw : zWf G) {P : zPS} {k : Nat} (ho : zPo G P k) (hk : k < P.1) (hv : (zpr G P k).2 = false) : zPo G (zpr G P k).1 (k + 1) := by
  obtain ⟨b1, b2⟩ := ho.2.2.1 k hk
  exact zpe_o ho hk (zps_b hw b1 b2) (hw.2.2.1 _ b1).2.2.2 hv
theorem zu0_k {g : Int → Int} {v : Nat} (hv : v < 6) (h : Nat.testBit (zu0 g) v = false) : 0 ≤ g (v : Int) := by
  have key : ∀ k, v < k → Nat.testBit (zit (fun v u => if g (v : Int) < 0 then u ||| 2 ^ v else u) k 0) v = false → 0 ≤ g (v : Int) := by
    intro k
    induction k with
    | zero => intro h; omega
    | succ k ih =>
      intro hk h
      have h : Nat.testBit (if g (k : Int) < 0 then zit (fun v u => if g (v : Int) < 0 then u ||| 2 ^ v else u) k 0 ||| 2 ^ k else zit (fun v u => if g (v : Int) < 0 then u ||| 2 ^ v else u) k 0) v = false := h
      by_cases e : v = k
      · subst e
        by_cases e2 : g (v : Int) < 0
        · rw [if_pos e2, Nat.testBit_or, Nat.testBit_two_pow_self] at h
          simp at h
        · omega
      · refine ih (by omega) ?_
        by_cases e2 : g (k : Int) < 0
        · rw [if_pos e2, Nat.testBit_or, Bool.or_eq_false_iff] at h
          exact h.1
        · rw [if_neg e2] at h
          exact h
  exact key 6 hv h
theorem zuk1_le {t : Nat → Int} {u : Nat} : zle u (zuk1 t u) := by
  unfold zuk1
  split
  · intro v h
    rw [Nat.testBit_or, h]
    rfl
  · exact zle_rf _
theorem zukp_le {S : Nat → Nat → Int} {u : Nat} : ∀ n, zle u (zukp S n u)
  | 0 => zle_rf _
  | n + 1 => zle_tr (zukp_le n) zuk1_le
theorem zUG_le {G : zG} : zle (zu0 G.2.2.2.2.1) (zUG G) := by
  have key : ∀ n, zle (zu0 G.2.2.2.2.1) (zit (fun _ u => zukp G.2.2.2.1 G.2.2.1 u) n (zu0 G.2.2.2.2.1)) := by
    intro n
    induction n with
    | zero => exact zle_rf _
    | succ n ih => exact zle_tr ih (zukp_le _)
  exact key 6
/-- a known variable is given -/
theorem zUG_k {G : zG} {v : Int} (h0 : 0 ≤ v) (h6 : v < 6) (h : Nat.testBit (zUG G) v.toNat = false) : 0 ≤ G.2.2.2.2.1 v := by
  have h2 : Nat.testBit (zu0 G.2.2.2.2.1) v.toNat = false := by
    cases e : Nat.testBit (zu0 G.2.2.2.2.1) v.toNat
    · rfl
    · rw [zUG_le _ e] at h
      cases h
  have := zu0_k (by omega) h2
  rw [Int.toNat_of_nonneg h0] at this
  exact this
theorem ztd_g {G : zG} (hw : zWf G) (b : Nat) : zVb (ztd G G.2.2.2.2.1 b) := by
  intro v h0 h6
  unfold ztd
  split
  · rename_i h
    exact ⟨zUG_k h0 h6 h.1, (hw.2.2.2.2.1 v h0 h6).2⟩
  · omega
theorem zxp_0 {G : zG} (hw : zWf G) (hn : 0 < G.1) : zPo G (zxp G 0).1 0 ∧ (zxp G 0).1.1 = 1 ∧ (zxp G 0).2 = false := by
  have h := zme_o (G := G) (P := zP0) (k := 0) ⟨Nat.zero_le _, Nat.zero_le _, fun j hj => absurd hj (Nat.not_lt_zero _), fun j hj => absurd hj (Nat.not_lt_zero _)⟩ (b := 0) hn (ztd_g hw 0) (-4)
  refine ⟨h.1, ?_, rfl⟩
  show (zme zP0 0 (ztd G G.2.2.2.2.1 0) (-4)).1.1 = 1
  unfold zme
  rw [if_neg (by show ¬ (zfd zP0 0 _ 0 < 0); omega), if_neg (by show ¬ (0 = 40); omega)]
  rfl
theorem zxp_s {G : zG} {k : Nat} (h1 : (zxp G k).2 = false) (h2 : k < (zxp G k).1.1) : zxp G (k + 1) = zpr G (zxp G k).1 k := by
  show (if (zxp G k).2 = true ∨ (zxp G k).1.1 ≤ k then zxp G k else zpr G (zxp G k).1 k) = _
  rw [if_neg]
  rintro (h | h)
  · rw [h1] at h; cases h
  · omega
theorem zxp_o {G : zG} (hw : zWf G) (hn : 0 < G.1) : ∀ k, (zxp G k).2 = false → (k ≤ (zxp G k).1.1 → zPo G (zxp G k).1 k)
  | 0, _ => fun _ => (zxp_0 hw hn).1
  | k + 1, hv => fun hk => by
    by_cases hc : (zxp G k).2 = true ∨ (zxp G k).1.1 ≤ k
    · have e : zxp G (k + 1) = zxp G k := by
        show (if (zxp G k).2 = true ∨ (zxp G k).1.1 ≤ k then zxp G k else _) = _
        rw [if_pos hc]
      rw [e] at hv hk
      rcases hc with hc | hc
      · rw [hv] at hc; cases hc
      · omega
    · have h1 : (zxp G k).2 = false := by
        cases e : (zxp G k).2
        · rfl
        · exact absurd (Or.inl e) hc
      have h2 : k < (zxp G k).1.1 := by
        apply Nat.lt_of_not_le
        intro q
        exact hc (Or.inr q)
      have e := zxp_s h1 h2
      rw [e] at hv ⊢
      exact zpr_o hw (zxp_o hw hn k h1 (by omega)) h2 hv
/-- who leads -/
def zld (A : Nat → Nat → Int) (m j : Nat) : Prop := A m 3 = (j : Int) ∨ A m 4 = (j : Int)
def zLe (P : zPS) (k : Nat) (D : Nat → Prop) : Prop := ∀ j, j < P.1 → (P.2.2.2.1 j = -4 ∧ ¬ D j ∧ ∀ m, m < k → ¬ zld P.2.2.2.2.1 m j) ∨ (∃ m : Nat, m < k ∧ P.2.2.2.1 j = (m : Int) ∧ zld P.2.2.2.2.1 m j ∧ ∀ i, i < m → ¬ zld P.2.2.2.2.1 i j) ∨ (P.2.2.2.1 j = (k : Int) ∧ D j ∧ ∀ m, m < k → ¬ zld P.2.2.2.2.1 m j)
def zNo : Nat → Prop := fun _ => False
theorem zme_l {G : zG} {P : zPS} {k : Nat} (ho : zPo G P k) {D : Nat → Prop} (hl : zLe P k D) (b : Nat) (f : Int → Int) (hv : (zme P b f (k : Int)).2.2 = false) : zLe (zme P b f (k : Int)).1 k (fun j => D j ∨ j = (zme P b f (k : Int)).2.1) := by
  unfold zme at hv ⊢
  split
  · rename_i h
    intro j hj
    have hj : j < P.1 := hj
    show ((if j = zfd P b f P.1 ∧ P.2.2.2.1 j = -4 then (k : Int) else P.2.2.2.1 j) = -4 ∧ ¬ (D j ∨ j = zfd P b f P.1) ∧ _) ∨ (∃ m : Nat, m < k ∧ (if j = zfd P b f P.1 ∧ P.2.2.2.1 j = -4 then (k : Int) else P.2.2.2.1 j) = (m : Int) ∧ _) ∨ ((if j = zfd P b f P.1 ∧ P.2.2.2.1 j = -4 then (k : Int) else P.2.2.2.1 j) = (k : Int) ∧ (D j ∨ j = zfd P b f P.1) ∧ _)
    rcases hl j hj with ⟨a, b2, c⟩ | ⟨m, a, b2, c⟩ | ⟨a, b2, c⟩
    · by_cases e : j = zfd P b f P.1
      · right; right
        rw [if_pos ⟨e, a⟩]
        exact ⟨rfl, Or.inr e, c⟩
      · left
        rw [if_neg (fun q => e q.1)]
        exact ⟨a, fun q => q.elim b2 e, c⟩
    · right; left
      rw [if_neg (fun q => by have := q.2; omega)]
      exact ⟨m, a, b2, c⟩
    · right; right
      rw [if_neg (fun q => by have := q.2; omega)]
      exact ⟨a, Or.inl b2, c⟩
  · rename_i h
    rw [if_neg h] at hv
    split
    · rename_i h2
      rw [if_pos h2] at hv
      cases hv
    · intro j hj
      have hj : j < P.1 + 1 := hj
      show ((if j = P.1 then (k : Int) else P.2.2.2.1 j) = -4 ∧ ¬ (D j ∨ j = P.1) ∧ _) ∨ (∃ m : Nat, m < k ∧ (if j = P.1 then (k : Int) else P.2.2.2.1 j) = (m : Int) ∧ _) ∨ ((if j = P.1 then (k : Int) else P.2.2.2.1 j) = (k : Int) ∧ (D j ∨ j = P.1) ∧ _)
      by_cases e : j = P.1
      · right; right
        rw [if_pos e]
        refine ⟨rfl, Or.inr e, fun m hm hz => ?_⟩
        have he := (ho.2.2.2 m hm).2.1
        unfold zWE at he
        unfold zld at hz
        have hz : P.2.2.2.2.1 m 3 = (j : Int) ∨ P.2.2.2.2.1 m 4 = (j : Int) := hz
        omega
      · rw [if_neg e]
        rcases hl j (by omega) with ⟨a, b2, c⟩ | ⟨m, a, b2, c⟩ | ⟨a, b2, c⟩
        · exact Or.inl ⟨a, fun q => q.elim b2 e, c⟩
        · exact Or.inr (Or.inl ⟨m, a, b2, c⟩)
        · exact Or.inr (Or.inr ⟨a, Or.inl b2, c⟩)
theorem zput_l {P : zPS} {k : Nat} {D : Nat → Prop} (hl : zLe P k D) {s : zLs} {e o t y : Int} (hd : ∀ j : Nat, D j ↔ (o = (j : Int) ∨ t = (j : Int))) : zLe (zput P k s e o t y) (k + 1) zNo := by
  intro j hj
  have hk : ∀ m, m < k → (zld (zput P k s e o t y).2.2.2.2.1 m j ↔ zld P.2.2.2.2.1 m j) := by
    intro m hm
    unfold zld
    show ((if m = k then _ else P.2.2.2.2.1 m 3) = (j : Int) ∨ (if m = k then _ else P.2.2.2.2.1 m 4) = (j : Int)) ↔ _
    rw [if_neg (by omega), if_neg (by omega)]
  have hkk : zld (zput P k s e o t y).2.2.2.2.1 k j ↔ D j := by
    rw [hd]
    unfold zld
    show ((if k = k then o else _) = (j : Int) ∨ (if k = k then t else _) = (j : Int)) ↔ _
    rw [if_pos rfl, if_pos rfl]
  rcases hl j hj with ⟨a, b2, c⟩ | ⟨m, a, b2, c, d⟩ | ⟨a, b2, c⟩
  · left
    refine ⟨a, fun q => q, fun m hm q => ?_⟩
    by_cases e : m = k
    · subst e; exact b2 (hkk.mp q)
    · exact c m (by omega) ((hk m (by omega)).mp q)
  · right; left
    exact ⟨m, by omega, b2, (hk m a).mpr c, fun i hi q => d i hi ((hk i (by omega)).mp q)⟩
  · right; left
    exact ⟨k, by omega, a, hkk.mpr b2, fun i hi q => c i hi ((hk i hi).mp q)⟩
theorem zpe_l {G : zG} {P : zPS} {k : Nat} (ho : zPo G P k) {s : zLs} (hs : zLo s 24) {a : Nat → Int} (ha : zWE G.1 a) (hl : zLe P k zNo) (hv : (zpe G P k s a).2 = false) : zLe (zpe G P k s a).1 (k + 1) zNo := by
  unfold zpe at hv ⊢
  unfold zWE at ha
  by_cases e2 : a 2 = 2
  · rw [if_pos e2]
    exact zput_l hl (fun j => ⟨fun q => q.elim, fun q => by omega⟩)
  · rw [if_neg e2] at hv ⊢
    by_cases e1 : a 2 = 1 ∧ Nat.testBit (zUG G) (a 5).toNat = true
    · rw [if_pos e1] at hv ⊢
      have hv := Bool.or_eq_false_iff.mp hv
      obtain ⟨p1, -, -, -, -⟩ := zm1_o ho (b := (a 3).toNat) (by omega) hs.1
      have l1 := zme_l ho hl (a 3).toNat _ hv.1
      have l2 := zme_l p1 l1 (a 4).toNat _ hv.2
      refine zput_l l2 (fun j => ?_)
      show ((zNo j ∨ j = (zm1 G P k s (a 3).toNat).2.1) ∨ j = (zm1 G (zm1 G P k s (a 3).toNat).1 k s (a 4).toNat).2.1) ↔ _
      constructor
      · rintro ((q | q) | q)
        · exact q.elim
        · left; omega
        · right; omega
      · rintro (q | q)
        · left; right; omega
        · right; omega
    · rw [if_neg e1] at hv ⊢
      have l1 := zme_l ho hl _ _ hv
      refine zput_l l1 (fun j => ?_)
      constructor
      · rintro (q | q)
        · exact q.elim
        · left; rw [q]; rfl
      · rintro (q | q)
        · right; exact (Int.ofNat.inj q).symm
        · omega
theorem zxp_l {G : zG} (hw : zWf G) (hn : 0 < G.1) : ∀ k, (zxp G k).2 = false → (k ≤ (zxp G k).1.1 → zLe (zxp G k).1 k zNo)
  | 0, _ => fun _ => by
    intro j hj
    rw [(zxp_0 hw hn).2.1] at hj
    left
    refine ⟨?_, fun q => q, fun m hm => by omega⟩
    show (zme zP0 0 (ztd G G.2.2.2.2.1 0) (-4)).1.2.2.2.1 j = -4
    unfold zme
    rw [if_neg (by show ¬ (zfd zP0 0 _ 0 < 0); omega), if_neg (by show ¬ (0 = 40); omega)]
    show (if j = 0 then (-4 : Int) else -4) = -4
    split <;> rfl
  | k + 1, hv => fun hk => by
    by_cases hc : (zxp G k).2 = true ∨ (zxp G k).1.1 ≤ k
    · have e : zxp G (k + 1) = zxp G k := by
        show (if (zxp G k).2 = true ∨ (zxp G k).1.1 ≤ k then zxp G k else _) = _
        rw [if_pos hc]
      rw [e] at hv hk
      rcases hc with hc | hc
      · rw [hv] at hc; cases hc
      · omega
    · have h1 : (zxp G k).2 = false := by
        cases e : (zxp G k).2
        · rfl
        · exact absurd (Or.inl e) hc
      have h2 : k < (zxp G k).1.1 := by
        apply Nat.lt_of_not_le
        intro q
        exact hc (Or.inr q)
      have e := zxp_s h1 h2
      have ho := zxp_o hw hn k h1 (by omega)
      obtain ⟨b1, b2⟩ := ho.2.2.1 k h2
      rw [e] at hv ⊢
      exact zpe_l ho (zps_b hw b1 b2) (hw.2.2.1 _ b1).2.2.2 (zxp_l hw hn k h1 (by omega)) hv
