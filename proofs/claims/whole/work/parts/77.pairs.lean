/-! The pairs: sheets, reading, measure -/
theorem zit_y {α : Type} {f g : Nat → α → α} {a : α} {n : Nat} (e : ∀ i, i < n → ∀ s, f i s = g i s) : zit f n a = zit g n a := by
  induction n with
  | zero => rfl
  | succ n ih =>
    show f n (zit f n a) = g n (zit g n a)
    rw [ih (fun i hi => e i (by omega)), e n (by omega)]
theorem zsb_r {k : Int} (hk : 0 ≤ k ∧ k < 4) : 73 ≤ zsb k ∧ zsb k ≤ 79 := by
  unfold zsb
  omega
theorem zsb_n {k j : Int} (hk : 0 ≤ k ∧ k < 4) (hj : 0 ≤ j ∧ j < 4) (h : ¬ j = k) : zsb j ≠ zsb k ∧ zsb j ≠ zsb k + 1 ∧ zsb j + 1 ≠ zsb k ∧ zsb j + 1 ≠ zsb k + 1 := by
  unfold zsb
  omega
theorem pq_23 : zPair zInv 23 126 3 := by
  rintro as hl h ⟨G, hi⟩
  obtain ⟨k, l, n, rfl⟩ := zas3 hl
  have hi2 : zAll h G := hi
  obtain ⟨ha, hb, hc, hd, hcp, hmp, hwc, hf, hr, hs, ht⟩ := hi
  by_cases hk : 0 ≤ k ∧ k < 4
  · have zk := zsb_r hk
    refine s_23 hk (fun q => ?_) (fun q => ?_) (fun q h1 hF1 e1 e2 e3 => ?_)
    · exact s_126 (fun _ => ⟨⟨_, rfl, rfl⟩, G, hi2⟩) (fun z => absurd (by omega) q) (fun z => absurd (by omega) q)
    · exact s_126 (fun z => absurd (by omega) z) (fun _ => ⟨⟨_, rfl, rfl⟩, G, hi2⟩) (fun z => absurd z (by omega))
    have he1 : ∀ (r : Nat) (j : Int), ¬ (r = zsb k ∨ r = zsb k + 1) → h1 r j = h r j := fun r j q => hF1 r j (by
      simp only [Bool.or_eq_false_iff, zeq_f]
      omega)
    refine s_126 (fun z => absurd (by omega) z) (fun z => absurd z (by omega)) (fun _ h2 hF2 d1 d2 d3 d4 => ⟨⟨_, rfl, rfl⟩, ?_⟩)
    have he2 : ∀ (r : Nat) (j : Int), ¬ (r = 104 ∨ r = 105 ∨ r = 106) → h2 r j = h1 r j := fun r j q => hF2 r j (by
      simp only [Bool.or_eq_false_iff, zeq_f]
      omega)
    have he : ∀ (r : Nat) (j : Int), ¬ ((73 ≤ r ∧ r ≤ 80) ∨ r = 104 ∨ r = 105 ∨ r = 106) → h2 r j = h r j := fun r j q => (he2 r j (by omega)).trans (he1 r j (by omega))
    have hA : zIs h2 := by
      intro j j0 j4
      have zj := zsb_r ⟨j0, j4⟩
      rw [d1, d2]
      by_cases e : j = k
      · subst e
        rw [zst_eq, zst_eq, he2 _ _ (by omega), he2 _ _ (by omega)]
        exact ⟨e1, e2, q.2, fun i i0 i4 => ((he2 _ _ (by omega)).trans (e3 i i0 i4)).trans (d3 i i0 i4).symm⟩
      · obtain ⟨n1, n2, n3, n4⟩ := zsb_n hk ⟨j0, j4⟩ e
        rw [zst_ne e, zst_ne e, he2 (zsb j) 1 (by omega), he2 (zsb j) 2 (by omega), he1 (zsb j) 1 (by omega), he1 (zsb j) 2 (by omega), he1 104 j (by omega), he1 105 j (by omega)]
        obtain ⟨s1, s2, s3, s4⟩ := hs j j0 j4
        exact ⟨s1, s2, s3, fun i i0 i4 => ((he2 _ _ (by omega)).trans (he1 _ _ (by omega))).trans ((s4 i i0 i4).trans ((d4 _ (by omega)).trans (he1 _ _ (by omega))).symm)⟩
    exact ⟨G, ha.fr (fun r k q => he r k (by omega)), ((he 1 2 (by omega)).trans (hb.trans (he 81 3 (by omega)).symm)), hc.fr (fun r k q => he r k (by omega)), ⟨hd.1.fr (by decide) (fun r k q => he r k (by omega)), hd.2.fr (by decide) (fun r k q => he r k (by omega))⟩, hcp.fr (fun k q => he 0 k (by omega)) (fun r k q => he r k (by omega)), hmp.fr (fun k q => he 81 k (by omega)) (fun r k q => he r k (by omega)), hwc.fr (fun k => he 84 k (by omega)) (fun k => he 85 k (by omega)), hf.fr (fun r k q => he r k (by omega)), hr.fr (fun r k q => he r k (by omega)), hA, ((he 0 13 (by omega)).trans (ht.trans (he 81 45 (by omega)).symm))⟩
  · exact s_23_b hk (s_126 (fun _ => ⟨⟨_, rfl, rfl⟩, G, hi2⟩) (fun z => absurd z.1 hk) (fun z => absurd z.1 hk))
theorem pq_24 : zPair zInv 24 127 3 := by
  rintro as hl h ⟨G, hi⟩
  obtain ⟨k, i, v, rfl⟩ := zas3 hl
  have hi2 : zAll h G := hi
  obtain ⟨ha, hb, hc, hd, hcp, hmp, hwc, hf, hr, hs, ht⟩ := hi
  have hl0 : ∀ k, 0 ≤ k → k < 4 → 0 ≤ h 105 k ∧ h 105 k ≤ 40 := fun k k0 k4 => (hs k k0 k4).2.2.1
  by_cases hk : 0 ≤ k ∧ k < 4
  · have zk := zsb_r hk
    obtain ⟨s1, s2, s3, s4⟩ := hs k hk.1 hk.2
    refine s_24 hk (by omega) (fun q => ?_) (fun q q2 => ?_) (fun q q2 => ?_)
    · exact s_127 hl0 (fun z => absurd hk z) (fun _ _ => ⟨⟨_, rfl, rfl⟩, G, hi2⟩) (fun _ z => absurd (s1.symm.trans q) z) (fun _ z => absurd (s1.symm.trans q) z)
    · exact s_127 hl0 (fun z => absurd hk z) (fun _ z => absurd (s1.trans z) q) (fun _ _ _ => ⟨⟨_, rfl, rfl⟩, G, hi2⟩) (fun _ _ z => absurd (by omega) q2)
    have hv : (if h 104 k = 0 then zx_shr (zx_shl v 24) 24 else if h 104 k = 1 then zx_shr (zx_shl v 16) 16 else v) = (if h (zsb k) 1 = 0 then zx_b v else if h (zsb k) 1 = 1 then zx_s v else v) := by
      rw [s1, z_b8, z_s16]
    generalize hx : (if h (zsb k) 1 = 0 then zx_b v else if h (zsb k) 1 = 1 then zx_s v else v) = x at hv ⊢
    generalize hh_h1 : zx_st h (zsb k + 1) i x = h1
    have he_h1 : ∀ (r : Nat) (u9 : Int), ¬ (r = zsb k + 1 ∧ u9 = i) → h1 r u9 = h r u9 := by
      intro r u9 q9
      subst hh_h1
      rw [zst_o (by omega)]
    have x1 : h1 (zsb k + 1) i = x := by
      subst hh_h1
      exact zst_eq _ _ _ _
    have y4 := he_h1 104 k (by omega)
    have y5 := he_h1 105 k (by omega)
    show zR 127 [.inr (.inr 81), .inl k, .inl i, .inl v] h1 _
    refine s_127 (fun j j0 j4 => by rw [he_h1 105 j (by omega)]; exact hl0 j j0 j4) (fun z => absurd hk z) (fun _ z => absurd ((s1.trans y4.symm).trans z) q) (fun _ _ z => absurd (by omega) z) (fun _ _ _ => ⟨⟨_, rfl, rfl⟩, ?_⟩)
    rw [y4, hv]
    generalize hh_h2 : zx_st h1 106 (40 * k + i) x = h2
    have he_h2 : ∀ (r : Nat) (u9 : Int), ¬ (r = 106 ∧ u9 = 40 * k + i) → h2 r u9 = h1 r u9 := by
      intro r u9 q9
      subst hh_h2
      rw [zst_o (by omega)]
    have x3 : h2 106 (40 * k + i) = x := by
      subst hh_h2
      exact zst_eq _ _ _ _
    have x2 := (he_h2 (zsb k + 1) i (by omega)).trans x1
    have he : ∀ (r : Nat) (j : Int), ¬ (r = zsb k + 1 ∧ j = i ∨ r = 106 ∧ j = 40 * k + i) → h2 r j = h r j := fun r j q => (he_h2 r j (by omega)).trans (he_h1 r j (by omega))
    have hA : zIs h2 := by
      intro j j0 j4
      have zj := zsb_r ⟨j0, j4⟩
      obtain ⟨t1, t2, t3, t4⟩ := hs j j0 j4
      have nz : zsb j ≠ zsb k + 1 := by
        unfold zsb
        omega
      rw [he (zsb j) 1 (by omega), he (zsb j) 2 (by omega), he 104 _ (by omega), he 105 _ (by omega)]
      refine ⟨t1, t2, t3, fun u u0 u4 => ?_⟩
      by_cases e : j = k ∧ u = i
      · obtain ⟨rfl, rfl⟩ := e
        exact x2.trans x3.symm
      · by_cases e2 : j = k
        · rw [he _ _ (by omega), he _ _ (by omega)]
          exact t4 u u0 u4
        · have n4 := (zsb_n hk ⟨j0, j4⟩ e2).2.2.2
          rw [he _ _ (by omega), he _ _ (by omega)]
          exact t4 u u0 u4
    exact ⟨G, ha.fr (fun r k q => he r k (by omega)), ((he 1 2 (by omega)).trans (hb.trans (he 81 3 (by omega)).symm)), hc.fr (fun r k q => he r k (by omega)), ⟨hd.1.fr (by decide) (fun r k q => he r k (by omega)), hd.2.fr (by decide) (fun r k q => he r k (by omega))⟩, hcp.fr (fun k q => he 0 k (by omega)) (fun r k q => he r k (by omega)), hmp.fr (fun k q => he 81 k (by omega)) (fun r k q => he r k (by omega)), hwc.fr (fun k => he 84 k (by omega)) (fun k => he 85 k (by omega)), hf.fr (fun r k q => he r k (by omega)), hr.fr (fun r k q => he r k (by omega)), hA, ((he 0 13 (by omega)).trans (ht.trans (he 81 45 (by omega)).symm))⟩
  · exact s_24_b hk (s_127 hl0 (fun _ => ⟨⟨_, rfl, rfl⟩, G, hi2⟩) (fun z => absurd z hk) (fun z => absurd z hk) (fun z => absurd z hk))
/-- a reading's pairs lie in the sheet -/
theorem zrdf_z {ln len l f : Int} {j : Nat} (h : zrdf ln len l f j = 0) : 0 ≤ f + 2 * (j : Int) ∧ f + 2 * (j : Int) + 1 < len := by
  unfold zrdf at h
  split at h
  · omega
  · split at h
    · split at h
      · assumption
      · omega
    · omega
theorem zrdac_y {c d : Int → Int} {f : Int} {j : Nat} (h : ∀ i, 0 ≤ i → i < 40 → c i = d i) (hj : 0 ≤ f + 2 * (j : Int) ∧ f + 2 * (j : Int) + 1 < 40) (a : zrdac c f j) : zrdac d f j := by
  unfold zrdac at a ⊢
  rw [← h _ hj.1 (by omega), ← h _ (by omega) hj.2]
  exact a
theorem zrdp_y {c d s r : Int → Int} {f : Int} {m : Nat} (h : ∀ i, 0 ≤ i → i < 40 → c i = d i) (hs : ∀ v, 0 ≤ v → v < 6 → s v = r v ∧ 0 ≤ s v ∧ s v ≤ 99) (hj : ∀ j : Nat, j < m → (0 ≤ f + 2 * (j : Int) ∧ f + 2 * (j : Int) + 1 < 40) ∧ zrdac c f j) : ∀ v, 0 ≤ v → v < 6 → zrdp c f s m v = zrdp d f r m v ∧ 0 ≤ zrdp c f s m v ∧ zrdp c f s m v ≤ 99 := by
  induction m with
  | zero => exact hs
  | succ m ih =>
    intro v v0 v6
    obtain ⟨q, a⟩ := hj m (by omega)
    have i1 := ih (fun j hj2 => hj j (by omega)) v v0 v6
    show (if v = c (f + 2 * (m : Int)) then c (f + 2 * (m : Int) + 1) else zrdp c f s m v) = (if v = d (f + 2 * (m : Int)) then d (f + 2 * (m : Int) + 1) else zrdp d f r m v) ∧ 0 ≤ (if v = c (f + 2 * (m : Int)) then c (f + 2 * (m : Int) + 1) else zrdp c f s m v) ∧ (if v = c (f + 2 * (m : Int)) then c (f + 2 * (m : Int) + 1) else zrdp c f s m v) ≤ 99
    rw [← h _ q.1 (by omega), ← h _ (by omega) q.2]
    unfold zrdac at a
    split
    · exact ⟨rfl, a.2⟩
    · exact i1
theorem pq_25 : zPair zInv 25 129 4 := by
  rintro as hl h ⟨G, hi⟩
  obtain ⟨k, l, f, n, rfl⟩ := zas4 hl
  have hi2 : zAll h G := hi
  obtain ⟨ha, hb, hc, hd, hcp, hmp, hwc, hf, hr, hs, ht⟩ := hi
  have hl0 : ∀ k, 0 ≤ k → k < 4 → 0 ≤ h 105 k ∧ h 105 k ≤ 40 := fun k k0 k4 => (hs k k0 k4).2.2.1
  have hs0 : ∀ v, 0 ≤ v → v < 6 → 0 ≤ h 98 v := fun v v0 v6 => by
    have := hf v v0 v6
    omega
  by_cases hk : 0 ≤ k ∧ k < 4
  · have zk := zsb_r hk
    obtain ⟨s1, s2, s3, s4⟩ := hs k hk.1 hk.2
    have hj0 : ∀ (j : Nat), zrdf (h (zsb k) 1) (h (zsb k) 2) l f j = 0 → 0 ≤ f + 2 * (j : Int) ∧ f + 2 * (j : Int) + 1 < 40 := fun j q => by
      have := zrdf_z q
      omega
    have hac : ∀ (j : Nat), zrdf (h (zsb k) 1) (h (zsb k) 2) l f j = 0 → (zrdac (h (zsb k + 1)) f j ↔ zrdac (fun i => h 106 (40 * k + i)) f j) := fun j q => ⟨zrdac_y s4 (hj0 j q), zrdac_y (fun i i0 i4 => (s4 i i0 i4).symm) (hj0 j q)⟩
    refine s_25 hk (by omega) (fun q => ?_) (fun q m e h1 hm hj he0 hF1 e13 hv1 => ?_) (fun q m h1 hm hj hz hna hF1 => ?_)
    · exact s_129 hl0 hs0 (fun _ => ⟨⟨_, rfl, rfl⟩, G, hi2⟩) (fun z => absurd z.2 q) (fun z => absurd z.2 q)
    · have he1 : ∀ (r : Nat) (j : Int), ¬ (r = 70 ∨ r = 71 ∨ r = 0 ∧ j = 13) → h1 r j = h r j := fun r j q => hF1 r j (by
        simp only [Bool.or_eq_false_iff, Bool.and_eq_false_iff, decide_eq_false_iff_not, zeq_f]
        omega)
      have y4 := (he1 104 k (by omega)).trans s1.symm
      have y5 := (he1 105 k (by omega)).trans s2.symm
      have y6 : (fun i => h1 106 (40 * k + i)) = fun i => h 106 (40 * k + i) := funext fun i => he1 106 _ (by omega)
      refine s_129 (fun j j0 j4 => by rw [he1 105 j (by omega)]; exact hl0 j j0 j4) (fun v v0 v6 => by rw [he1 98 v (by omega)]; exact hs0 v v0 v6) (fun z => absurd ⟨hk, q⟩ z) (fun _ m2 e2 h2 hm2 hj2 he2 hF2 e45 hv2 => ?_) (fun _ m2 h2 hm2 hj2 hz2 hna2 hF2 hv2 => ?_)
      · rw [y4, y5] at hj2 he2
        rw [y6] at hj2 hv2
        have hmm : m2 = m := by
          rcases Nat.lt_trichotomy m2 m with x | x | x
          · exfalso
            have z := (hj m2 x).1
            rcases he2 with w | w
            · omega
            · exact w.2.2 (w.2.1.trans z)
          · exact x
          · exfalso
            have z := (hj2 m x).1
            rcases he0 with w | w
            · omega
            · exact w.2.2 (w.2.1.trans z)
        subst hmm
        have hee : e2 = e := by
          rcases he0 with w | w
          · rcases he2 with u | u
            · exact u.2.trans w.2.symm
            · omega
          · rcases he2 with u | u
            · omega
            · exact u.2.1.trans w.2.1.symm
        subst hee
        refine ⟨⟨_, rfl, rfl⟩, ?_⟩
        have hb2 : ∀ (r : Nat) (j : Int), ¬ (r = 98 ∨ r = 107 ∨ r = 81 ∧ j = 45) → h2 r j = h1 r j := fun r j q => hF2 r j (by
          simp only [Bool.or_eq_false_iff, Bool.and_eq_false_iff, decide_eq_false_iff_not, zeq_f]
          omega)
        have he : ∀ (r : Nat) (j : Int), ¬ ((r = 70 ∨ r = 71 ∨ r = 0 ∧ j = 13) ∨ r = 98 ∨ r = 107 ∨ r = 81 ∧ j = 45) → h2 r j = h r j := fun r j q => (hb2 r j (by omega)).trans (he1 r j (by omega))
        have hA : zIf h2 := by
          intro v v0 v6
          rw [hb2 70 v (by omega), hv1 v v0 v6, hv2 v v0 v6]
          have hr0 : (h1 98) = h 98 := funext fun u => he1 98 u (by omega)
          rw [hr0]
          exact zrdp_y s4 (fun v v0 v6 => hf v v0 v6) (fun j hj3 => ⟨hj0 j (hj j hj3).1, (hj j hj3).2⟩) v v0 v6
        exact ⟨G, ha.fr (fun r k q => he r k (by omega)), ((he 1 2 (by omega)).trans (hb.trans (he 81 3 (by omega)).symm)), hc.fr (fun r k q => he r k (by omega)), ⟨hd.1.fr (by decide) (fun r k q => he r k (by omega)), hd.2.fr (by decide) (fun r k q => he r k (by omega))⟩, hcp.fr (fun k q => he 0 k (by omega)) (fun r k q => he r k (by omega)), hmp.fr (fun k q => he 81 k (by omega)) (fun r k q => he r k (by omega)), hwc.fr (fun k => he 84 k (by omega)) (fun k => he 85 k (by omega)), hA, hr.fr (fun r k q => he r k (by omega)), hs.fr (fun r k q => he r k (by omega)), ((hb2 0 13 (by omega)).trans e13).trans e45.symm⟩
      · exfalso
        rw [y4, y5] at hj2 hz2
        rw [y6] at hj2 hna2
        rcases Nat.lt_trichotomy m2 m with x | x | x
        · exact hna2 ((hac m2 hz2).mp (hj m2 x).2)
        · subst x
          rcases he0 with w | w
          · omega
          · exact w.2.2 (w.2.1.trans hz2)
        · have z := (hj2 m x).1
          rcases he0 with w | w
          · omega
          · exact w.2.2 (w.2.1.trans z)
    · have he1 : ∀ (r : Nat) (j : Int), ¬ (r = 71) → h1 r j = h r j := fun r j q => hF1 r j (by
        simp only [zeq_f]
        omega)
      have y4 := (he1 104 k (by omega)).trans s1.symm
      have y5 := (he1 105 k (by omega)).trans s2.symm
      have y6 : (fun i => h1 106 (40 * k + i)) = fun i => h 106 (40 * k + i) := funext fun i => he1 106 _ (by omega)
      refine s_129 (fun j j0 j4 => by rw [he1 105 j (by omega)]; exact hl0 j j0 j4) (fun v v0 v6 => by rw [he1 98 v (by omega)]; exact hs0 v v0 v6) (fun z => absurd ⟨hk, q⟩ z) (fun _ m2 e2 h2 hm2 hj2 he2 hF2 e45 hv2 => ?_) (fun _ m2 h2 hm2 hj2 hz2 hna2 hF2 hv2 => ?_)
      · exfalso
        rw [y4, y5] at hj2 he2
        rw [y6] at hj2
        rcases Nat.lt_trichotomy m2 m with x | x | x
        · have z := (hj m2 x).1
          rcases he2 with w | w
          · omega
          · exact w.2.2 (w.2.1.trans z)
        · subst x
          rcases he2 with w | w
          · omega
          · exact w.2.2 (w.2.1.trans hz)
        · exact hna ((hac m hz).mpr (hj2 m x).2)
      · rw [y4, y5] at hj2 hz2
        rw [y6] at hj2 hna2
        have hmm : m2 = m := by
          rcases Nat.lt_trichotomy m2 m with x | x | x
          · exact absurd ((hac m2 hz2).mp (hj m2 x).2) hna2
          · exact x
          · exact absurd ((hac m hz).mpr (hj2 m x).2) hna
        subst hmm
        refine ⟨⟨_, rfl, rfl⟩, ?_⟩
        have hb2 : ∀ (r : Nat) (j : Int), ¬ (r = 98 ∨ r = 107) → h2 r j = h1 r j := fun r j q => hF2 r j (by
          simp only [Bool.or_eq_false_iff, zeq_f]
          omega)
        have he : ∀ (r : Nat) (j : Int), ¬ (r = 71 ∨ r = 98 ∨ r = 107) → h2 r j = h r j := fun r j q => (hb2 r j (by omega)).trans (he1 r j (by omega))
        have hA : zIf h2 := by
          intro v v0 v6
          rw [he 70 v (by omega), hv2 v v0 v6, he1 98 v (by omega)]
          exact hf v v0 v6
        exact ⟨G, ha.fr (fun r k q => he r k (by omega)), ((he 1 2 (by omega)).trans (hb.trans (he 81 3 (by omega)).symm)), hc.fr (fun r k q => he r k (by omega)), ⟨hd.1.fr (by decide) (fun r k q => he r k (by omega)), hd.2.fr (by decide) (fun r k q => he r k (by omega))⟩, hcp.fr (fun k q => he 0 k (by omega)) (fun r k q => he r k (by omega)), hmp.fr (fun k q => he 81 k (by omega)) (fun r k q => he r k (by omega)), hwc.fr (fun k => he 84 k (by omega)) (fun k => he 85 k (by omega)), hA, hr.fr (fun r k q => he r k (by omega)), hs.fr (fun r k q => he r k (by omega)), ((he 0 13 (by omega)).trans (ht.trans (he 81 45 (by omega)).symm))⟩
  · exact s_25_b hk (s_129 hl0 hs0 (fun _ => ⟨⟨_, rfl, rfl⟩, G, hi2⟩) (fun z => absurd z.1 hk) (fun z => absurd z.1 hk))
theorem pq_27 : zPair zInv 27 132 1 := by
  rintro as hl h ⟨G, hi⟩
  obtain ⟨w, rfl⟩ := zas1 hl
  have hi2 : zAll h G := hi
  obtain ⟨ha, hb, hc, hd, hcp, hmp, hwc, hf, hr, hs, ht⟩ := hi
  obtain ⟨k1, k2, k3⟩ := hc.k
  obtain ⟨⟨a1, a2, a3, a4, a5, a6⟩, ⟨b1, b2, b3, b4, b5, b6⟩, c1, c2, c3, c4, c5, c6⟩ := hc
  have n1 : ∀ {A B : Prop}, A → ¬ A → B := fun a b => absurd a b
  have hA : ∀ v : Nat, v < 6 → 0 ≤ h 98 (v : Int) ∧ h 98 (v : Int) ≤ 99 := fun v hv => by
    have := hf (v : Int) (by omega) (by omega)
    omega
  refine s_27 k1 (fun v hv => (hf (v : Int) (by omega) (by omega)).2) (fun q => ?_) (fun q => ?_) (fun q => ?_) (fun q => ?_) (fun q => ?_) (fun q => ?_)
  · refine s_132 k2 hA (fun _ => ⟨⟨_, rfl, ?_⟩, G, hi2⟩) (fun z => absurd z (by omega)) (fun z => absurd z (by omega)) (fun z => absurd z (by omega)) (fun z => absurd z (by omega)) (fun z => absurd z (by omega))
    rw [show h 51 0 = h 103 0 from hd.1.1, show h 51 1 = h 103 1 from hd.2.1]
  · refine s_132 k2 hA (fun z => absurd z (by omega)) (fun _ => ⟨⟨_, rfl, ?_⟩, G, hi2⟩) (fun z => absurd z (by omega)) (fun z => absurd z (by omega)) (fun z => absurd z (by omega)) (fun z => absurd z (by omega))
    obtain ⟨n, t, ta, tb⟩ := ha
    rw [ta.1, tb.1]
  · refine s_132 k2 hA (fun z => absurd z (by omega)) (fun z => absurd z (by omega)) (fun _ => ⟨⟨_, rfl, ?_⟩, G, hi2⟩) (fun z => absurd z (by omega)) (fun z => absurd z (by omega)) (fun z => absurd z (by omega))
    have s0 := hs 0 (by omega) (by omega)
    rw [show h 73 1 = h 104 0 from s0.1, show h 73 2 = h 105 0 from s0.2.1]
  · refine s_132 k2 hA (fun z => absurd z (by omega)) (fun z => absurd z (by omega)) (fun z => absurd z (by omega)) (fun _ => ⟨⟨_, rfl, ?_⟩, G, hi2⟩) (fun z => absurd z (by omega)) (fun z => absurd z (by omega))
    rw [zit_y (fun v hv s => by show s + h 98 (v : Int) = s + h 70 (v : Int); rw [(hf (v : Int) (by omega) (by omega)).1])]
  · refine s_132 k2 hA (fun z => absurd z (by omega)) (fun z => absurd z (by omega)) (fun z => absurd z (by omega)) (fun z => absurd z (by omega)) (fun _ => ⟨⟨_, rfl, ?_⟩, G, hi2⟩) (fun z => absurd z (by omega))
    have b2z : h 82 176 = (G.2.2.1 : Int) := b2
    have hn : (h 82 176).toNat = (h 12 8).toNat := by omega
    rw [hn]
    refine congrArg (fun x => some (Sum.inl x)) (zit_y (fun i hi s => ?_))
    have x1 := a4 i 2 (by omega) (by omega)
    have x2 := b4 i 2 (by omega) (by omega)
    have x3 := a4 i 4 (by omega) (by omega)
    have x4 := b4 i 4 (by omega) (by omega)
    rw [Int.zero_add] at x2 x4
    show s + (zno (h 82 (48 + (i : Int))) + zno (h 82 (96 + (i : Int)))) = s + (zno (h 19 ((i : Int) * 5 + 2)) + zno (h 19 ((i : Int) * 5 + 4)))
    rw [show h 82 (48 + (i : Int)) = _ from x2, show h 82 (96 + (i : Int)) = _ from x4, show h 19 ((i : Int) * 5 + 2) = _ from x1, show h 19 ((i : Int) * 5 + 4) = _ from x3]
  · exact s_132 k2 hA (fun z => absurd z (by omega)) (fun z => absurd z (by omega)) (fun z => absurd z (by omega)) (fun z => absurd z (by omega)) (fun z => absurd z (by omega)) (fun _ => ⟨⟨_, rfl, rfl⟩, G, hi2⟩)
