/-! The pairs: texts, images -/
theorem zPc.copy {h h2 : zM} {b g b2 g2 : Nat} {G : zG} (hp : zPc h b g G) (w1 : G.1 ≤ 8) (w2 : G.2.2.1 ≤ 24) (e7 : h2 b2 7 = h b 7) (e8 : h2 b2 8 = h b 8) (er : ∀ (w : Nat) (k : Int), w < 6 → 0 ≤ k → k < 8 → h2 (b2 + 1 + w) k = h (b + 1 + w) k) (es : ∀ k, 0 ≤ k → k < 120 → h2 (b2 + 7) k = h (b + 7) k) (eg : ∀ k, 0 ≤ k → k < 6 → h2 (g2 + 1) k = h (g + 1) k) (e2 : h2 g2 2 = h g 2) : zPc h2 b2 g2 G := by
  obtain ⟨a1, a2, a3, a4, a5, a6⟩ := hp
  exact ⟨e7.trans a1, e8.trans a2, fun p w hp hw => (er w _ hw (by omega) (by omega)).trans (a3 p w hp hw), fun i w hi hw => (es _ (by omega) (by omega)).trans (a4 i w hi hw), fun v v0 v6 => (eg v v0 v6).trans (a5 v v0 v6), e2.trans a6⟩
theorem zPm.copy {h h2 : zM} {o o2 : Int} {G : zG} (hp : zPm h o G) (w1 : G.1 ≤ 8) (w2 : G.2.2.1 ≤ 24) (e : ∀ i, 0 ≤ i → i < 177 → h2 82 (o2 + i) = h 82 (o + i)) : zPm h2 o2 G := by
  obtain ⟨b1, b2, b3, b4, b5, b6⟩ := hp
  exact ⟨(e _ (by omega) (by omega)).trans b1, (e _ (by omega) (by omega)).trans b2, fun p w hp hw => (e _ (by omega) (by omega)).trans (b3 p w hp hw), fun i w hi hw => (e _ (by omega) (by omega)).trans (b4 i w hi hw), fun v v0 v6 => (e _ (by omega) (by omega)).trans (b5 v v0 v6), (e _ (by omega) (by omega)).trans b6⟩
theorem zId.fr2 {h h2 : zM} {k : Nat} (hk : k < 2) (hi : zId h k) (e : ∀ r j, (20 + 8 * k ≤ r ∧ r ≤ 27 + 8 * k) ∨ (46 + 2 * k ≤ r ∧ r ≤ 47 + 2 * k) ∨ r = 51 ∧ j = (k : Int) ∨ r = 103 ∧ j = (k : Int) ∨ r = 82 ∧ 177 + 177 * (k : Int) ≤ j ∧ j < 354 + 177 * (k : Int) → h2 r j = h r j) : zId h2 k := by
  obtain ⟨a, b⟩ := hi
  have e51 := e 51 (k : Int) (by omega)
  refine ⟨e51.trans (a.trans (e 103 (k : Int) (by omega)).symm), fun q => ?_⟩
  rw [e51] at q
  obtain ⟨G, a, b, c⟩ := b q
  have w1 := c.1
  have w2 := c.2.1
  exact ⟨G, a.fr (fun w j hw => e _ _ (by omega)) (fun j => e _ _ (by omega)) (fun j => e _ _ (by omega)), b.copy w1 w2 (fun i i0 i7 => e _ _ (by omega)), c⟩
theorem pq_2 : zPair zInv 2 65 0 := by
  rintro as hl h ⟨G, hi⟩
  obtain rfl := zas0 hl
  have hi2 : zAll h G := hi
  obtain ⟨ha, hb, hc, hd, hcp, hmp, hwc, hf, hr, hs, ht⟩ := hi
  obtain ⟨n, t, ta, tb⟩ := ha
  have g := zg_text (n := n) (t := t) (fun i hi => (ta.2.2 i hi).2)
  refine s_2 ta (fun D hD h1 hF1 c1 c2 c3 c4 c5 c6 c7 => ?_) (fun e hE h1 hF1 c1 c2 => ?_)
  · have he1 : ∀ (r : Nat) (k : Int), ¬ (r = 1 ∨ (4 ≤ r ∧ r ≤ 11) ∨ r = 2 ∧ k = 1 ∨ (12 ≤ r ∧ r ≤ 19) ∨ r = 44 ∨ r = 45 ∨ r = 51 ∨ r = 0 ∧ (k = 15 ∨ k = 16)) → h1 r k = h r k := fun r k q => zXf_q hF1 r k q
    refine s_65 (n := n) (t := t) ⟨(he1 81 2 (by omega)).trans tb.1, tb.2.1, fun i hi => ⟨(he1 83 _ (by omega)).trans (tb.2.2 i hi).1, (tb.2.2 i hi).2⟩⟩ (hwc.fr (fun k => he1 84 k (by omega)) (fun k => he1 85 k (by omega))) (fun D2 hD2 h2 hF2 d1 d2 d3 d4 d5 d6 d7 => ?_) (fun e2 hE2 => ?_)
    · have hq : D2 = D := Sum.inr.inj (hD2.symm.trans hD)
      subst hq
      have he : ∀ (r : Nat) (k : Int), ¬ ((r = 1 ∨ (4 ≤ r ∧ r ≤ 11) ∨ r = 2 ∧ k = 1 ∨ (12 ≤ r ∧ r ≤ 19) ∨ r = 44 ∨ r = 45 ∨ r = 51 ∨ r = 0 ∧ (k = 15 ∨ k = 16)) ∨ r = 81 ∧ 2 ≤ k ∧ k ≤ 9 ∨ r = 82 ∧ 531 ≤ k ∨ r = 81 ∧ (k = 14 ∨ k = 36) ∨ r = 82 ∧ k < 177 ∨ r = 103) → h2 r k = h r k := fun r k q => (zYxf_q hF2 r k (by omega)).trans (zXf_q hF1 r k (by omega))
      have he2 : ∀ (r : Nat) (k : Int), ¬ (r = 81 ∧ 2 ≤ k ∧ k ≤ 9 ∨ r = 82 ∧ 531 ≤ k ∨ r = 81 ∧ (k = 14 ∨ k = 36) ∨ r = 82 ∧ k < 177 ∨ r = 103) → h2 r k = h1 r k := fun r k q => zYxf_q hF2 r k q
      have y51 := (he2 51 0 (by omega)).trans c4
      have y51b := (he2 51 1 (by omega)).trans c5
      have y15 := (he2 0 15 (by omega)).trans c6
      have y16 := (he2 0 16 (by omega)).trans c7
      have hA : zIa h2 := ⟨0, t, ⟨(he2 2 1 (by omega)).trans c1, by omega, fun i hi => absurd hi (by omega)⟩, ⟨d1, by omega, fun i hi => absurd hi (by omega)⟩⟩
      exact ⟨⟨_, rfl, rfl⟩, ⟨(zGD D2), hA, ((he2 1 2 (by omega)).trans c2).trans d2.symm, ⟨c3.fr (fun w k hw => he2 _ _ (by omega)) (fun k => he2 _ _ (by omega)) (fun k => he2 _ _ (by omega)), d3, g.2 _ hD⟩, ⟨⟨y51.trans d4.symm, fun q => absurd y51 q⟩, ⟨y51b.trans d5.symm, fun q => absurd y51b q⟩⟩, zCp.w _ y16, zMp.w _ d6, hwc.fr (fun k => he 84 k (by omega)) (fun k => he 85 k (by omega)), hf.fr (fun r k q => he r k (by omega)), ⟨y15.trans d7.symm, fun q => absurd y15 q⟩, hs.fr (fun r k q => he r k (by omega)), ((he 0 13 (by omega)).trans (ht.trans (he 81 45 (by omega)).symm))⟩⟩
    · rw [hE2] at hD
      cases hD
  · have he1 : ∀ (r : Nat) (k : Int), ¬ (r = 1 ∨ (4 ≤ r ∧ r ≤ 11) ∨ r = 2 ∧ k = 1) → h1 r k = h r k := fun r k q => zXe_q hF1 r k q
    refine s_65 (n := n) (t := t) ⟨(he1 81 2 (by omega)).trans tb.1, tb.2.1, fun i hi => ⟨(he1 83 _ (by omega)).trans (tb.2.2 i hi).1, (tb.2.2 i hi).2⟩⟩ (hwc.fr (fun k => he1 84 k (by omega)) (fun k => he1 85 k (by omega))) (fun D2 hD2 => ?_) (fun e2 hE2 h2 hF2 d1 d2 => ?_)
    · rw [hD2] at hE
      cases hE
    · have hq : e2 = e := Sum.inl.inj (hE2.symm.trans hE)
      subst hq
      have he : ∀ (r : Nat) (k : Int), ¬ ((r = 1 ∨ (4 ≤ r ∧ r ≤ 11) ∨ r = 2 ∧ k = 1) ∨ r = 81 ∧ 2 ≤ k ∧ k ≤ 9 ∨ r = 82 ∧ 531 ≤ k) → h2 r k = h r k := fun r k q => (zYe_q hF2 r k (by omega)).trans (zXe_q hF1 r k (by omega))
      have he2 : ∀ (r : Nat) (k : Int), ¬ (r = 81 ∧ 2 ≤ k ∧ k ≤ 9 ∨ r = 82 ∧ 531 ≤ k) → h2 r k = h1 r k := fun r k q => zYe_q hF2 r k q
      have hA : zIa h2 := ⟨0, t, ⟨(he2 2 1 (by omega)).trans c1, by omega, fun i hi => absurd hi (by omega)⟩, ⟨d1, by omega, fun i hi => absurd hi (by omega)⟩⟩
      exact ⟨⟨_, rfl, rfl⟩, ⟨G, hA, ((he2 1 2 (by omega)).trans c2).trans d2.symm, hc.fr (fun r k q => he r k (by omega)), ⟨hd.1.fr (by decide) (fun r k q => he r k (by omega)), hd.2.fr (by decide) (fun r k q => he r k (by omega))⟩, hcp.fr (fun k q => he 0 k (by omega)) (fun r k q => he r k (by omega)), hmp.fr (fun k q => he 81 k (by omega)) (fun r k q => he r k (by omega)), hwc.fr (fun k => he 84 k (by omega)) (fun k => he 85 k (by omega)), hf.fr (fun r k q => he r k (by omega)), hr.fr (fun r k q => he r k (by omega)), hs.fr (fun r k q => he r k (by omega)), ((he 0 13 (by omega)).trans (ht.trans (he 81 45 (by omega)).symm))⟩⟩
theorem pq_21_0 {h : zM} {G : zG} (hi2 : zAll h G) : zR 21 [.inr (.inr 0), .inl 0] h (fun rv h1 => zR 124 [.inr (.inr 81), .inl 0] h1 (fun rv2 h2 => (∃ x, rv = some (.inl x) ∧ rv2 = some (.inl x)) ∧ zInv h2)) := by
  obtain ⟨ha, hb, hc, hd, hcp, hmp, hwc, hf, hr, hs, ht⟩ := hi2
  refine s_21_0 (fun h1 hF1 e7 e8 er es eg e2 ek eo => ?_)
  have he1 : ∀ (r : Nat) (k : Int), ¬ ((20 ≤ r ∧ r ≤ 27) ∨ r = 46 ∨ r = 47 ∨ r = 51) → h1 r k = h r k := fun r k q => hF1 r k (by
    simp only [Bool.or_eq_false_iff, Bool.and_eq_false_iff, zle_f, zeq_f]
    omega)
  refine s_124 (fun z => absurd (by omega) z) (fun _ h2 hF2 m1 m2 m3 m4 => ⟨⟨_, rfl, ?_⟩, ?_⟩)
  · rw [he1 103 0 (by omega)]
    have := hd.1.1
    rw [show h 51 0 = h 103 0 from this]
  have he2 : ∀ (r : Nat) (k : Int), ¬ (r = 82 ∧ (177 ≤ k ∧ k < 354) ∨ r = 103 ∧ k = 0) → h2 r k = h1 r k := by
    intro r k q
    by_cases e8 : r = 82
    · subst e8
      exact m2 k (by omega)
    · by_cases e3 : r = 103
      · subst e3
        exact m4 k (by omega)
      · exact hF2 r k (by
          simp only [Bool.or_eq_false_iff, zeq_f]
          omega)
  have he : ∀ (r : Nat) (k : Int), ¬ (((20 ≤ r ∧ r ≤ 27) ∨ r = 46 ∨ r = 47 ∨ r = 51) ∨ r = 82 ∧ (177 ≤ k ∧ k < 354) ∨ r = 103 ∧ k = 0) → h2 r k = h r k := fun r k q => (he2 r k (by omega)).trans (he1 r k (by omega))
  have hc2 := hc
  obtain ⟨p1, p2, p3⟩ := hc2
  have hA : zId h2 0 := by
    refine ⟨((he2 51 0 (by omega)).trans ek).trans m3.symm, fun _ => ⟨G, ?_, ?_, p3⟩⟩
    · exact p1.copy p3.1 p3.2.1 ((he2 _ _ (by omega)).trans e7) ((he2 _ _ (by omega)).trans e8) (fun w k hw k0 k8 => (he2 _ _ (by omega)).trans (er w k hw k0 k8)) (fun k k0 k8 => (he2 _ _ (by omega)).trans (es k k0 k8)) (fun k k0 k8 => (he2 _ _ (by omega)).trans (eg k k0 k8)) ((he2 _ _ (by omega)).trans e2)
    · refine p2.copy p3.1 p3.2.1 (fun i i0 i7 => ?_)
      have y := m1 i i0 i7
      rw [he1 82 i (by omega)] at y
      rw [Int.zero_add]
      exact y
  have hB : zId h2 1 := hd.2.fr2 (by decide) (fun r j q => by
    by_cases e : r = 51
    · subst e
      have ej : j = 1 := by omega
      subst ej
      exact (he2 51 1 (by omega)).trans eo
    · exact he r j (by omega))
  exact ⟨G, ha.fr (fun r k q => he r k (by omega)), ((he 1 2 (by omega)).trans (hb.trans (he 81 3 (by omega)).symm)), hc.fr (fun r k q => he r k (by omega)), ⟨hA, hB⟩, hcp.fr (fun k q => he 0 k (by omega)) (fun r k q => he r k (by omega)), hmp.fr (fun k q => he 81 k (by omega)) (fun r k q => he r k (by omega)), hwc.fr (fun k => he 84 k (by omega)) (fun k => he 85 k (by omega)), hf.fr (fun r k q => he r k (by omega)), hr.fr (fun r k q => he r k (by omega)), hs.fr (fun r k q => he r k (by omega)), ((he 0 13 (by omega)).trans (ht.trans (he 81 45 (by omega)).symm))⟩
theorem pq_21_1 {h : zM} {G : zG} (hi2 : zAll h G) : zR 21 [.inr (.inr 0), .inl 1] h (fun rv h1 => zR 124 [.inr (.inr 81), .inl 1] h1 (fun rv2 h2 => (∃ x, rv = some (.inl x) ∧ rv2 = some (.inl x)) ∧ zInv h2)) := by
  obtain ⟨ha, hb, hc, hd, hcp, hmp, hwc, hf, hr, hs, ht⟩ := hi2
  refine s_21_1 (fun h1 hF1 e7 e8 er es eg e2 ek eo => ?_)
  have he1 : ∀ (r : Nat) (k : Int), ¬ ((28 ≤ r ∧ r ≤ 35) ∨ r = 48 ∨ r = 49 ∨ r = 51) → h1 r k = h r k := fun r k q => hF1 r k (by
    simp only [Bool.or_eq_false_iff, Bool.and_eq_false_iff, zle_f, zeq_f]
    omega)
  refine s_124 (fun z => absurd (by omega) z) (fun _ h2 hF2 m1 m2 m3 m4 => ⟨⟨_, rfl, ?_⟩, ?_⟩)
  · rw [he1 103 1 (by omega)]
    have := hd.2.1
    rw [show h 51 1 = h 103 1 from this]
  have he2 : ∀ (r : Nat) (k : Int), ¬ (r = 82 ∧ (354 ≤ k ∧ k < 531) ∨ r = 103 ∧ k = 1) → h2 r k = h1 r k := by
    intro r k q
    by_cases e8 : r = 82
    · subst e8
      exact m2 k (by omega)
    · by_cases e3 : r = 103
      · subst e3
        exact m4 k (by omega)
      · exact hF2 r k (by
          simp only [Bool.or_eq_false_iff, zeq_f]
          omega)
  have he : ∀ (r : Nat) (k : Int), ¬ (((28 ≤ r ∧ r ≤ 35) ∨ r = 48 ∨ r = 49 ∨ r = 51) ∨ r = 82 ∧ (354 ≤ k ∧ k < 531) ∨ r = 103 ∧ k = 1) → h2 r k = h r k := fun r k q => (he2 r k (by omega)).trans (he1 r k (by omega))
  have hc2 := hc
  obtain ⟨p1, p2, p3⟩ := hc2
  have hA : zId h2 1 := by
    refine ⟨((he2 51 1 (by omega)).trans ek).trans m3.symm, fun _ => ⟨G, ?_, ?_, p3⟩⟩
    · exact p1.copy p3.1 p3.2.1 ((he2 _ _ (by omega)).trans e7) ((he2 _ _ (by omega)).trans e8) (fun w k hw k0 k8 => (he2 _ _ (by omega)).trans (er w k hw k0 k8)) (fun k k0 k8 => (he2 _ _ (by omega)).trans (es k k0 k8)) (fun k k0 k8 => (he2 _ _ (by omega)).trans (eg k k0 k8)) ((he2 _ _ (by omega)).trans e2)
    · refine p2.copy p3.1 p3.2.1 (fun i i0 i7 => ?_)
      have y := m1 i i0 i7
      rw [he1 82 i (by omega)] at y
      rw [Int.zero_add]
      exact y
  have hB : zId h2 0 := hd.1.fr2 (by decide) (fun r j q => by
    by_cases e : r = 51
    · subst e
      have ej : j = 0 := by omega
      subst ej
      exact (he2 51 0 (by omega)).trans eo
    · exact he r j (by omega))
  exact ⟨G, ha.fr (fun r k q => he r k (by omega)), ((he 1 2 (by omega)).trans (hb.trans (he 81 3 (by omega)).symm)), hc.fr (fun r k q => he r k (by omega)), ⟨hB, hA⟩, hcp.fr (fun k q => he 0 k (by omega)) (fun r k q => he r k (by omega)), hmp.fr (fun k q => he 81 k (by omega)) (fun r k q => he r k (by omega)), hwc.fr (fun k => he 84 k (by omega)) (fun k => he 85 k (by omega)), hf.fr (fun r k q => he r k (by omega)), hr.fr (fun r k q => he r k (by omega)), hs.fr (fun r k q => he r k (by omega)), ((he 0 13 (by omega)).trans (ht.trans (he 81 45 (by omega)).symm))⟩
theorem pq_22_0 {h : zM} {G : zG} (hi2 : zAll h G) : zR 22 [.inr (.inr 0), .inl 0] h (fun rv h1 => zR 125 [.inr (.inr 81), .inl 0] h1 (fun rv2 h2 => (∃ x, rv = some (.inl x) ∧ rv2 = some (.inl x)) ∧ zInv h2)) := by
  have hi3 := hi2
  obtain ⟨ha, hb, hc, hd, hcp, hmp, hwc, hf, hr, hs, ht⟩ := hi2
  have hk : h 51 0 = h 103 0 := hd.1.1
  refine s_22_0 (fun z => ?_) (fun z h1 hF1 e7 e8 er es eg e2 e15 e16 => ?_)
  · exact s_125 (fun z => absurd (by omega) z) (fun _ _ => ⟨⟨_, rfl, rfl⟩, G, hi3⟩) (fun _ q => absurd (hk.symm.trans z) q)
  obtain ⟨G2, p1, p2, p3⟩ := hd.1.2 z
  have he1 : ∀ (r : Nat) (k : Int), ¬ ((12 ≤ r ∧ r ≤ 19) ∨ r = 44 ∨ r = 45 ∨ r = 0 ∧ (k = 15 ∨ k = 16)) → h1 r k = h r k := fun r k q => hF1 r k (by
    simp only [Bool.or_eq_false_iff, Bool.and_eq_false_iff, decide_eq_false_iff_not, zle_f, zeq_f]
    omega)
  have p1b : zPc h1 12 44 G2 := p1.copy p3.1 p3.2.1 e7 e8 er es eg e2
  refine s_125 (fun z => absurd (by omega) z) (fun _ q => absurd (((he1 103 0 (by omega)).symm.trans q)) (by rw [← hk]; exact z)) (fun _ _ h2 hF2 m1 m2 e14 e36 => ?_)
  have he2 : ∀ (r : Nat) (k : Int), ¬ (r = 82 ∧ (0 ≤ k ∧ k < 177) ∨ r = 81 ∧ (k = 14 ∨ k = 36)) → h2 r k = h1 r k := by
    intro r k q
    by_cases e8 : r = 82
    · subst e8
      exact m2 k (by omega)
    · exact hF2 r k (by
        simp only [Bool.or_eq_false_iff, Bool.and_eq_false_iff, decide_eq_false_iff_not, zeq_f]
        omega)
  have he : ∀ (r : Nat) (k : Int), ¬ (((12 ≤ r ∧ r ≤ 19) ∨ r = 44 ∨ r = 45 ∨ r = 0 ∧ (k = 15 ∨ k = 16)) ∨ r = 82 ∧ (0 ≤ k ∧ k < 177) ∨ r = 81 ∧ (k = 14 ∨ k = 36)) → h2 r k = h r k := fun r k q => (he2 r k (by omega)).trans (he1 r k (by omega))
  have p2b : zPm h2 0 G2 := by
    refine zPm.copy p2 p3.1 p3.2.1 (fun i i0 i7 => ?_)
    have y := m1 i i0 i7
    rw [he1 82 _ (by omega)] at y
    rw [Int.zero_add]
    exact y
  have x1 : h2 82 175 = (G2.1 : Int) := p2b.1
  have y15 := (he2 0 15 (by omega)).trans e15
  have y16 := (he2 0 16 (by omega)).trans e16
  refine ⟨⟨_, rfl, by rw [x1, p1b.1]⟩, ?_⟩
  exact ⟨G2, ha.fr (fun r k q => he r k (by omega)), ((he 1 2 (by omega)).trans (hb.trans (he 81 3 (by omega)).symm)), ⟨p1b.fr (fun w k hw => he2 _ _ (by omega)) (fun k => he2 _ _ (by omega)) (fun k => he2 _ _ (by omega)), p2b, p3⟩, ⟨hd.1.fr (by decide) (fun r k q => he r k (by omega)), hd.2.fr (by decide) (fun r k q => he r k (by omega))⟩, zCp.w _ y16, zMp.w _ e14, hwc.fr (fun k => he 84 k (by omega)) (fun k => he 85 k (by omega)), hf.fr (fun r k q => he r k (by omega)), ⟨y15.trans e36.symm, fun q => absurd y15 q⟩, hs.fr (fun r k q => he r k (by omega)), ((he 0 13 (by omega)).trans (ht.trans (he 81 45 (by omega)).symm))⟩
theorem pq_22_1 {h : zM} {G : zG} (hi2 : zAll h G) : zR 22 [.inr (.inr 0), .inl 1] h (fun rv h1 => zR 125 [.inr (.inr 81), .inl 1] h1 (fun rv2 h2 => (∃ x, rv = some (.inl x) ∧ rv2 = some (.inl x)) ∧ zInv h2)) := by
  have hi3 := hi2
  obtain ⟨ha, hb, hc, hd, hcp, hmp, hwc, hf, hr, hs, ht⟩ := hi2
  have hk : h 51 1 = h 103 1 := hd.2.1
  refine s_22_1 (fun z => ?_) (fun z h1 hF1 e7 e8 er es eg e2 e15 e16 => ?_)
  · exact s_125 (fun z => absurd (by omega) z) (fun _ _ => ⟨⟨_, rfl, rfl⟩, G, hi3⟩) (fun _ q => absurd (hk.symm.trans z) q)
  obtain ⟨G2, p1, p2, p3⟩ := hd.2.2 z
  have he1 : ∀ (r : Nat) (k : Int), ¬ ((12 ≤ r ∧ r ≤ 19) ∨ r = 44 ∨ r = 45 ∨ r = 0 ∧ (k = 15 ∨ k = 16)) → h1 r k = h r k := fun r k q => hF1 r k (by
    simp only [Bool.or_eq_false_iff, Bool.and_eq_false_iff, decide_eq_false_iff_not, zle_f, zeq_f]
    omega)
  have p1b : zPc h1 12 44 G2 := p1.copy p3.1 p3.2.1 e7 e8 er es eg e2
  refine s_125 (fun z => absurd (by omega) z) (fun _ q => absurd (((he1 103 1 (by omega)).symm.trans q)) (by rw [← hk]; exact z)) (fun _ _ h2 hF2 m1 m2 e14 e36 => ?_)
  have he2 : ∀ (r : Nat) (k : Int), ¬ (r = 82 ∧ (0 ≤ k ∧ k < 177) ∨ r = 81 ∧ (k = 14 ∨ k = 36)) → h2 r k = h1 r k := by
    intro r k q
    by_cases e8 : r = 82
    · subst e8
      exact m2 k (by omega)
    · exact hF2 r k (by
        simp only [Bool.or_eq_false_iff, Bool.and_eq_false_iff, decide_eq_false_iff_not, zeq_f]
        omega)
  have he : ∀ (r : Nat) (k : Int), ¬ (((12 ≤ r ∧ r ≤ 19) ∨ r = 44 ∨ r = 45 ∨ r = 0 ∧ (k = 15 ∨ k = 16)) ∨ r = 82 ∧ (0 ≤ k ∧ k < 177) ∨ r = 81 ∧ (k = 14 ∨ k = 36)) → h2 r k = h r k := fun r k q => (he2 r k (by omega)).trans (he1 r k (by omega))
  have p2b : zPm h2 0 G2 := by
    refine zPm.copy p2 p3.1 p3.2.1 (fun i i0 i7 => ?_)
    have y := m1 i i0 i7
    rw [he1 82 _ (by omega)] at y
    rw [Int.zero_add]
    exact y
  have x1 : h2 82 175 = (G2.1 : Int) := p2b.1
  have y15 := (he2 0 15 (by omega)).trans e15
  have y16 := (he2 0 16 (by omega)).trans e16
  refine ⟨⟨_, rfl, by rw [x1, p1b.1]⟩, ?_⟩
  exact ⟨G2, ha.fr (fun r k q => he r k (by omega)), ((he 1 2 (by omega)).trans (hb.trans (he 81 3 (by omega)).symm)), ⟨p1b.fr (fun w k hw => he2 _ _ (by omega)) (fun k => he2 _ _ (by omega)) (fun k => he2 _ _ (by omega)), p2b, p3⟩, ⟨hd.1.fr (by decide) (fun r k q => he r k (by omega)), hd.2.fr (by decide) (fun r k q => he r k (by omega))⟩, zCp.w _ y16, zMp.w _ e14, hwc.fr (fun k => he 84 k (by omega)) (fun k => he 85 k (by omega)), hf.fr (fun r k q => he r k (by omega)), ⟨y15.trans e36.symm, fun q => absurd y15 q⟩, hs.fr (fun r k q => he r k (by omega)), ((he 0 13 (by omega)).trans (ht.trans (he 81 45 (by omega)).symm))⟩
theorem pq_21 : zPair zInv 21 124 1 := by
  rintro as hl h ⟨G, hi⟩
  obtain ⟨k, rfl⟩ := zas1 hl
  by_cases q : 0 ≤ k ∧ k < 2
  · rcases (show k = 0 ∨ k = 1 by omega) with rfl | rfl
    · exact pq_21_0 (G := G) hi
    · exact pq_21_1 (G := G) hi
  · exact s_21_b q (s_124 (fun _ => ⟨⟨_, rfl, rfl⟩, G, hi⟩) (fun z => absurd z (by omega)))
theorem pq_22 : zPair zInv 22 125 1 := by
  rintro as hl h ⟨G, hi⟩
  obtain ⟨k, rfl⟩ := zas1 hl
  by_cases q : 0 ≤ k ∧ k < 2
  · rcases (show k = 0 ∨ k = 1 by omega) with rfl | rfl
    · exact pq_22_0 (G := G) hi
    · exact pq_22_1 (G := G) hi
  · exact s_22_b q (s_125 (fun _ => ⟨⟨_, rfl, rfl⟩, G, hi⟩) (fun z => absurd z (by omega)) (fun z => absurd z (by omega)))
