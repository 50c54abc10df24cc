/-! The pairs of single cells -/
theorem pq_0 : zPair zInv 0 51 1 := by
  rintro as hl h ⟨G, hi⟩
  obtain ⟨c, rfl⟩ := zas1 hl
  have hi2 : zAll h G := hi
  obtain ⟨ha, hb, hc, hd, hcp, hmp, hwc, hf, hr, hs, ht⟩ := hi
  have ha2 := ha
  obtain ⟨n, t, ⟨a1, a2, a3⟩, ⟨b1, b2, b3⟩⟩ := ha2
  refine s_0 (by omega) (fun q => ?_) (fun q q1 => ?_) (fun q q1 => ?_)
  · exact s_51 (by omega) (fun _ => ⟨⟨_, rfl, rfl⟩, G, hi2⟩) (fun z => absurd z q) (fun z => absurd z q)
  · exact s_51 (by omega) (fun z => absurd q z) (fun _ _ => ⟨⟨_, rfl, rfl⟩, G, hi2⟩) (fun _ z => absurd z (by omega))
  · generalize hh_h1 : zx_st (zx_st h 3 (h 2 1) c) 2 1 (h 2 1 + 1) = h1
    have he_h1 : ∀ (r : Nat) (k : Int), ¬ (r = 3 ∧ k = h 2 1 ∨ r = 2 ∧ k = 1) → h1 r k = h r k := by
      intro r k q
      subst hh_h1
      rw [zst_o (by omega), zst_o (by omega)]
    have x1 : h1 2 1 = h 2 1 + 1 := by
      subst hh_h1
      exact zst_eq _ _ _ _
    have x2 : h1 3 (h 2 1) = c := by
      subst hh_h1
      rw [zst_o (by omega), zst_eq]
    have y0 := he_h1 81 2 (by omega)
    show zR 51 [.inr (.inr 81), .inl c] h1 _
    refine s_51 (by omega) (fun z => absurd q z) (fun _ z => absurd z (by omega)) (fun _ _ => ⟨⟨_, rfl, by rw [y0, a1, b1]⟩, ?_⟩)
    generalize hh_h2 : zx_st (zx_st h1 83 (h1 81 2) c) 81 2 (h1 81 2 + 1) = h2
    have he_h2 : ∀ (r : Nat) (k : Int), ¬ (r = 83 ∧ k = h1 81 2 ∨ r = 81 ∧ k = 2) → h2 r k = h1 r k := by
      intro r k q
      subst hh_h2
      rw [zst_o (by omega), zst_o (by omega)]
    have x3 : h2 81 2 = h1 81 2 + 1 := by
      subst hh_h2
      exact zst_eq _ _ _ _
    have x4 : h2 83 (h1 81 2) = c := by
      subst hh_h2
      rw [zst_o (by omega), zst_eq]
    have he : ∀ (r : Nat) (k : Int), ¬ (r = 3 ∧ k = (n : Int) ∨ r = 2 ∧ k = 1 ∨ r = 83 ∧ k = (n : Int) ∨ r = 81 ∧ k = 2) → h2 r k = h r k := fun r k q => (he_h2 r k (by omega)).trans (he_h1 r k (by omega))
    have z1 := he_h2 2 1 (by omega)
    have z2 := he_h2 3 (h 2 1) (by omega)
    rw [a1] at z2 x2
    rw [y0, b1] at x4
    have hA : zIa h2 := by
      refine ⟨n + 1, fun i => if i = n then c else t i, ⟨by omega, by omega, fun i hi => ?_⟩, ⟨by omega, by omega, fun i hi => ?_⟩⟩
      · show h2 3 (i : Int) = (if i = n then c else t i) ∧ 0 ≤ (if i = n then c else t i) ∧ (if i = n then c else t i) ≤ 127
        by_cases e : i = n
        · rw [if_pos e, e]
          exact ⟨z2.trans x2, q⟩
        · rw [if_neg e]
          have z := a3 i (by omega)
          exact ⟨(he _ _ (by omega)).trans z.1, z.2⟩
      · show h2 83 (i : Int) = (if i = n then c else t i) ∧ 0 ≤ (if i = n then c else t i) ∧ (if i = n then c else t i) ≤ 127
        by_cases e : i = n
        · rw [if_pos e, e]
          exact ⟨x4, q⟩
        · rw [if_neg e]
          have z := b3 i (by omega)
          exact ⟨(he _ _ (by omega)).trans z.1, z.2⟩
    exact ⟨G, hA, ((he 1 2 (by omega)).trans (hb.trans (he 81 3 (by omega)).symm)), hc.fr (fun r k q => he r k (by omega)), ⟨hd.1.fr (by decide) (fun r k q => he r k (by omega)), hd.2.fr (by decide) (fun r k q => he r k (by omega))⟩, hcp.fr (fun k q => he 0 k (by omega)) (fun r k q => he r k (by omega)), hmp.fr (fun k q => he 81 k (by omega)) (fun r k q => he r k (by omega)), hwc.fr (fun k => he 84 k (by omega)) (fun k => he 85 k (by omega)), hf.fr (fun r k q => he r k (by omega)), hr.fr (fun r k q => he r k (by omega)), hs.fr (fun r k q => he r k (by omega)), ((he 0 13 (by omega)).trans (ht.trans (he 81 45 (by omega)).symm))⟩
theorem pq_1 : zPair zInv 1 52 1 := by
  rintro as hl h ⟨G, hi⟩
  obtain ⟨m, rfl⟩ := zas1 hl
  have hi2 : zAll h G := hi
  obtain ⟨ha, hb, hc, hd, hcp, hmp, hwc, hf, hr, hs, ht⟩ := hi
  have ha2 := ha
  obtain ⟨n, t, ⟨a1, a2, a3⟩, ⟨b1, b2, b3⟩⟩ := ha2
  refine s_1 (fun q => ?_) (fun q => ?_)
  · generalize hh_h1 : zx_st h 2 1 m = h1
    have he_h1 : ∀ (r : Nat) (k : Int), ¬ (r = 2 ∧ k = 1) → h1 r k = h r k := by
      intro r k q
      subst hh_h1
      rw [zst_o (by omega)]
    have x1 : h1 2 1 = m := by
      subst hh_h1
      exact zst_eq _ _ _ _
    have y0 := he_h1 81 2 (by omega)
    show zR 52 [.inr (.inr 81), .inl m] h1 _
    refine s_52 (fun _ => ⟨⟨_, rfl, by rw [y0, a1, b1]⟩, ?_⟩) (fun z => absurd (by omega) z)
    generalize hh_h2 : zx_st h1 81 2 m = h2
    have he_h2 : ∀ (r : Nat) (k : Int), ¬ (r = 81 ∧ k = 2) → h2 r k = h1 r k := by
      intro r k q
      subst hh_h2
      rw [zst_o (by omega)]
    have x3 : h2 81 2 = m := by
      subst hh_h2
      exact zst_eq _ _ _ _
    have z1 := he_h2 2 1 (by omega)
    have he : ∀ (r : Nat) (k : Int), ¬ (r = 2 ∧ k = 1 ∨ r = 81 ∧ k = 2) → h2 r k = h r k := fun r k q => (he_h2 r k (by omega)).trans (he_h1 r k (by omega))
    have hA : zIa h2 := ⟨m.toNat, t, ⟨by omega, by omega, fun i hi => ⟨(he _ _ (by omega)).trans (a3 i (by omega)).1, (a3 i (by omega)).2⟩⟩, ⟨by omega, by omega, fun i hi => ⟨(he _ _ (by omega)).trans (b3 i (by omega)).1, (b3 i (by omega)).2⟩⟩⟩
    exact ⟨G, hA, ((he 1 2 (by omega)).trans (hb.trans (he 81 3 (by omega)).symm)), hc.fr (fun r k q => he r k (by omega)), ⟨hd.1.fr (by decide) (fun r k q => he r k (by omega)), hd.2.fr (by decide) (fun r k q => he r k (by omega))⟩, hcp.fr (fun k q => he 0 k (by omega)) (fun r k q => he r k (by omega)), hmp.fr (fun k q => he 81 k (by omega)) (fun r k q => he r k (by omega)), hwc.fr (fun k => he 84 k (by omega)) (fun k => he 85 k (by omega)), hf.fr (fun r k q => he r k (by omega)), hr.fr (fun r k q => he r k (by omega)), hs.fr (fun r k q => he r k (by omega)), ((he 0 13 (by omega)).trans (ht.trans (he 81 45 (by omega)).symm))⟩
  · exact s_52 (fun z => absurd (by omega) q) (fun _ => ⟨⟨_, rfl, rfl⟩, G, hi2⟩)
theorem pq_14 : zPair zInv 14 107 2 := by
  rintro as hl h ⟨G, hi⟩
  obtain ⟨v, x, rfl⟩ := zas2 hl
  have hi2 : zAll h G := hi
  obtain ⟨ha, hb, hc, hd, hcp, hmp, hwc, hf, hr, hs, ht⟩ := hi
  refine s_14 (fun q => ?_) (fun q => ?_)
  · have f0 := hf v q.1.1 q.1.2
    generalize hh_h1 : zx_st h 70 v x = h1
    have he_h1 : ∀ (r : Nat) (k : Int), ¬ (r = 70 ∧ k = v) → h1 r k = h r k := by
      intro r k q
      subst hh_h1
      rw [zst_o (by omega)]
    have x1 : h1 70 v = x := by
      subst hh_h1
      exact zst_eq _ _ _ _
    have y0 := he_h1 98 v (by omega)
    show zR 107 [.inr (.inr 81), .inl v, .inl x] h1 _
    refine s_107 (fun _ => ⟨⟨_, rfl, by rw [y0, f0.1]⟩, ?_⟩) (fun z => absurd q z)
    generalize hh_h2 : zx_st h1 98 v x = h2
    have he_h2 : ∀ (r : Nat) (k : Int), ¬ (r = 98 ∧ k = v) → h2 r k = h1 r k := by
      intro r k q
      subst hh_h2
      rw [zst_o (by omega)]
    have x3 : h2 98 v = x := by
      subst hh_h2
      exact zst_eq _ _ _ _
    have z1 := (he_h2 70 v (by omega)).trans x1
    have he : ∀ (r : Nat) (k : Int), ¬ (r = 70 ∧ k = v ∨ r = 98 ∧ k = v) → h2 r k = h r k := fun r k q => (he_h2 r k (by omega)).trans (he_h1 r k (by omega))
    have hA : zIf h2 := by
      intro u u0 u6
      by_cases e : u = v
      · rw [e]
        omega
      · rw [he 70 u (by omega), he 98 u (by omega)]
        exact hf u u0 u6
    exact ⟨G, ha.fr (fun r k q => he r k (by omega)), ((he 1 2 (by omega)).trans (hb.trans (he 81 3 (by omega)).symm)), hc.fr (fun r k q => he r k (by omega)), ⟨hd.1.fr (by decide) (fun r k q => he r k (by omega)), hd.2.fr (by decide) (fun r k q => he r k (by omega))⟩, hcp.fr (fun k q => he 0 k (by omega)) (fun r k q => he r k (by omega)), hmp.fr (fun k q => he 81 k (by omega)) (fun r k q => he r k (by omega)), hwc.fr (fun k => he 84 k (by omega)) (fun k => he 85 k (by omega)), hA, hr.fr (fun r k q => he r k (by omega)), hs.fr (fun r k q => he r k (by omega)), ((he 0 13 (by omega)).trans (ht.trans (he 81 45 (by omega)).symm))⟩
  · exact s_107 (fun z => absurd z q) (fun _ => ⟨⟨_, rfl, rfl⟩, G, hi2⟩)
theorem pq_7 : zPair zInv 7 91 2 := by
  rintro as hl h ⟨G, hi⟩
  obtain ⟨v, x, rfl⟩ := zas2 hl
  have hi2 : zAll h G := hi
  obtain ⟨ha, hb, hc, hd, hcp, hmp, hwc, hf, hr, hs, ht⟩ := hi
  obtain ⟨⟨a1, a2, a3, a4, a5, a6⟩, ⟨b1, b2, b3, b4, b5, b6⟩, c1, c2, c3, c4, c5, c6⟩ := hc
  have hg : ∀ v, 0 ≤ v → v < 6 → 0 ≤ h 82 (168 + v) ∧ h 82 (168 + v) ≤ 100 := by
    intro u u0 u6
    have z := b5 u u0 u6
    have y := c5 u u0 u6
    rw [Int.zero_add] at z
    omega
  refine s_7 (fun q => ?_) (fun q => ?_)
  · have v0 := q.1.1
    have v6 := q.1.2
    have zb := b5 v v0 v6
    rw [Int.zero_add] at zb
    have za := a5 v v0 v6
    have zc := c5 v v0 v6
    generalize hh_h1 : zx_st (zx_st h 45 v (if x < 0 then -4 else x)) 0 16 1 = h1
    have he_h1 : ∀ (r : Nat) (k : Int), ¬ (r = 45 ∧ k = v ∨ r = 0 ∧ k = 16) → h1 r k = h r k := by
      intro r k q
      subst hh_h1
      rw [zst_o (by omega), zst_o (by omega)]
    have x1 : h1 45 v = if x < 0 then -4 else x := by
      subst hh_h1
      rw [zst_o (by omega), zst_eq]
    have x2 : h1 0 16 = 1 := by
      subst hh_h1
      exact zst_eq _ _ _ _
    have y0 := he_h1 82 (168 + v) (by omega)
    show zR 91 [.inr (.inr 81), .inl v, .inl x] h1 _
    refine s_91 (fun u u0 u6 => ?_) (fun _ => ⟨⟨_, rfl, ?_⟩, ?_⟩) (fun z => absurd q z)
    · rw [he_h1 82 _ (by omega)]
      exact hg u u0 u6
    · rw [y0, zb, show h 45 v = _ from za]
      congr 2
      split <;> split <;> omega
    generalize hh_h2 : zx_st (zx_st h1 82 (168 + v) (x + 1)) 81 14 0 = h2
    have he_h2 : ∀ (r : Nat) (k : Int), ¬ (r = 82 ∧ k = 168 + v ∨ r = 81 ∧ k = 14) → h2 r k = h1 r k := by
      intro r k q
      subst hh_h2
      rw [zst_o (by omega), zst_o (by omega)]
    have x3 : h2 82 (168 + v) = x + 1 := by
      subst hh_h2
      rw [zst_o (by omega), zst_eq]
    have x4 : h2 81 14 = 0 := by
      subst hh_h2
      exact zst_eq _ _ _ _
    have x5 := (he_h2 0 16 (by omega)).trans x2
    have x6 := (he_h2 45 v (by omega)).trans x1
    have he : ∀ (r : Nat) (k : Int), ¬ (r = 45 ∧ k = v ∨ r = 0 ∧ k = 16 ∨ r = 82 ∧ k = 168 + v ∨ r = 81 ∧ k = 14) → h2 r k = h r k := fun r k q => (he_h2 r k (by omega)).trans (he_h1 r k (by omega))
    have hA : zIc h2 (G.1, G.2.1, G.2.2.1, G.2.2.2.1, fun u => if u = v then x else G.2.2.2.2.1 u, G.2.2.2.2.2) := by
      refine ⟨⟨(he _ _ (by omega)).trans a1, (he _ _ (by omega)).trans a2, fun p w (hp : p < G.1) hw => (he _ _ (by omega)).trans (a3 p w hp hw), fun i w (hi : i < G.2.2.1) hw => (he _ _ (by omega)).trans (a4 i w hi hw), fun u u0 u6 => ?_, (he _ _ (by omega)).trans a6⟩, ⟨(he _ _ (by omega)).trans b1, (he _ _ (by omega)).trans b2, fun p w (hp : p < G.1) hw => (he _ _ (by omega)).trans (b3 p w hp hw), fun i w (hi : i < G.2.2.1) hw => (he _ _ (by omega)).trans (b4 i w hi hw), fun u u0 u6 => ?_, (he _ _ (by omega)).trans b6⟩, c1, c2, c3, c4, fun u u0 u6 => ?_, c6⟩
      · show h2 45 u = if (if u = v then x else G.2.2.2.2.1 u) < 0 then -4 else (if u = v then x else G.2.2.2.2.1 u)
        by_cases e : u = v
        · rw [if_pos e, e]
          exact x6
        · rw [if_neg e]
          exact (he _ _ (by omega)).trans (a5 u u0 u6)
      · show h2 82 (0 + (168 + u)) = (if u = v then x else G.2.2.2.2.1 u) + 1
        by_cases e : u = v
        · rw [if_pos e, e, Int.zero_add]
          exact x3
        · rw [if_neg e]
          exact (he _ _ (by omega)).trans (b5 u u0 u6)
      · show -1 ≤ (if u = v then x else G.2.2.2.2.1 u) ∧ (if u = v then x else G.2.2.2.2.1 u) ≤ 99
        by_cases e : u = v
        · rw [if_pos e]
          exact q.2
        · rw [if_neg e]
          exact c5 u u0 u6
    exact ⟨_, ha.fr (fun r k q => he r k (by omega)), ((he 1 2 (by omega)).trans (hb.trans (he 81 3 (by omega)).symm)), hA, ⟨hd.1.fr (by decide) (fun r k q => he r k (by omega)), hd.2.fr (by decide) (fun r k q => he r k (by omega))⟩, zCp.w _ x5, zMp.w _ x4, hwc.fr (fun k => he 84 k (by omega)) (fun k => he 85 k (by omega)), hf.fr (fun r k q => he r k (by omega)), hr.fr (fun r k q => he r k (by omega)), hs.fr (fun r k q => he r k (by omega)), ((he 0 13 (by omega)).trans (ht.trans (he 81 45 (by omega)).symm))⟩
  · exact s_91 hg (fun z => absurd z q) (fun _ => ⟨⟨_, rfl, rfl⟩, G, hi2⟩)
theorem pq_8 : zPair zInv 8 92 1 := by
  rintro as hl h ⟨G, hi⟩
  obtain ⟨v, rfl⟩ := zas1 hl
  have hi2 : zAll h G := hi
  obtain ⟨ha, hb, hc, hd, hcp, hmp, hwc, hf, hr, hs, ht⟩ := hi
  obtain ⟨⟨a1, a2, a3, a4, a5, a6⟩, ⟨b1, b2, b3, b4, b5, b6⟩, c1, c2, c3, c4, c5, c6⟩ := hc
  rw [Int.zero_add] at b6
  refine s_8 (fun q => ?_) (fun q => ?_)
  · generalize hh_h1 : zx_st (zx_st h 44 2 v) 0 16 1 = h1
    have he_h1 : ∀ (r : Nat) (k : Int), ¬ (r = 44 ∧ k = 2 ∨ r = 0 ∧ k = 16) → h1 r k = h r k := by
      intro r k q
      subst hh_h1
      rw [zst_o (by omega), zst_o (by omega)]
    have x1 : h1 44 2 = v := by
      subst hh_h1
      rw [zst_o (by omega), zst_eq]
    have x2 : h1 0 16 = 1 := by
      subst hh_h1
      exact zst_eq _ _ _ _
    have y0 := he_h1 82 174 (by omega)
    show zR 92 [.inr (.inr 81), .inl v] h1 _
    refine s_92 (by omega) (fun _ => ⟨⟨_, rfl, ?_⟩, ?_⟩) (fun z => absurd q z)
    · rw [y0, b6, a6]
      congr 2
      omega
    generalize hh_h2 : zx_st (zx_st h1 82 174 (1 - v)) 81 14 0 = h2
    have he_h2 : ∀ (r : Nat) (k : Int), ¬ (r = 82 ∧ k = 174 ∨ r = 81 ∧ k = 14) → h2 r k = h1 r k := by
      intro r k q
      subst hh_h2
      rw [zst_o (by omega), zst_o (by omega)]
    have x3 : h2 82 174 = 1 - v := by
      subst hh_h2
      rw [zst_o (by omega), zst_eq]
    have x4 : h2 81 14 = 0 := by
      subst hh_h2
      exact zst_eq _ _ _ _
    have x5 := (he_h2 0 16 (by omega)).trans x2
    have x6 := (he_h2 44 2 (by omega)).trans x1
    have he : ∀ (r : Nat) (k : Int), ¬ (r = 44 ∧ k = 2 ∨ r = 0 ∧ k = 16 ∨ r = 82 ∧ k = 174 ∨ r = 81 ∧ k = 14) → h2 r k = h r k := fun r k q => (he_h2 r k (by omega)).trans (he_h1 r k (by omega))
    have hA : zIc h2 (G.1, G.2.1, G.2.2.1, G.2.2.2.1, G.2.2.2.2.1, v) := 
      ⟨⟨(he _ _ (by omega)).trans a1, (he _ _ (by omega)).trans a2, fun p w (hp : p < G.1) hw => (he _ _ (by omega)).trans (a3 p w hp hw), fun i w (hi : i < G.2.2.1) hw => (he _ _ (by omega)).trans (a4 i w hi hw), fun u u0 u6 => (he _ _ (by omega)).trans (a5 u u0 u6), x6⟩, ⟨(he _ _ (by omega)).trans b1, (he _ _ (by omega)).trans b2, fun p w (hp : p < G.1) hw => (he _ _ (by omega)).trans (b3 p w hp hw), fun i w (hi : i < G.2.2.1) hw => (he _ _ (by omega)).trans (b4 i w hi hw), fun u u0 u6 => (he _ _ (by omega)).trans (b5 u u0 u6), by rw [Int.zero_add]; exact x3⟩, c1, c2, c3, c4, c5, by show v = 0 ∨ v = 1; omega⟩
    exact ⟨_, ha.fr (fun r k q => he r k (by omega)), ((he 1 2 (by omega)).trans (hb.trans (he 81 3 (by omega)).symm)), hA, ⟨hd.1.fr (by decide) (fun r k q => he r k (by omega)), hd.2.fr (by decide) (fun r k q => he r k (by omega))⟩, zCp.w _ x5, zMp.w _ x4, hwc.fr (fun k => he 84 k (by omega)) (fun k => he 85 k (by omega)), hf.fr (fun r k q => he r k (by omega)), hr.fr (fun r k q => he r k (by omega)), hs.fr (fun r k q => he r k (by omega)), ((he 0 13 (by omega)).trans (ht.trans (he 81 45 (by omega)).symm))⟩
  · exact s_92 (by omega) (fun z => absurd z q) (fun _ => ⟨⟨_, rfl, rfl⟩, G, hi2⟩)
theorem zWS_set {t t2 : Nat → Int} {w : Nat} {v : Int} (ht : zWS t) (hw : 1 ≤ w ∧ w < 5) (h0 : 0 ≤ t w) (hv : 0 ≤ v) (h1 : w = 1 → v < 6) (h3 : w = 3 → v < 4) (h5 : v < 106) (e : t2 w = v) (en : ∀ u, u ≠ w → t2 u = t u) : zWS t2 := by
  have e0 := en 0 (by omega)
  rcases (show w = 1 ∨ w = 2 ∨ w = 3 ∨ w = 4 by omega) with rfl | rfl | rfl | rfl
  · have e1 := en 2 (by omega)
    have e2 := en 3 (by omega)
    have e3 := en 4 (by omega)
    unfold zWS at ht ⊢
    omega
  · have e1 := en 1 (by omega)
    have e2 := en 3 (by omega)
    have e3 := en 4 (by omega)
    unfold zWS at ht ⊢
    omega
  · have e1 := en 1 (by omega)
    have e2 := en 2 (by omega)
    have e3 := en 4 (by omega)
    unfold zWS at ht ⊢
    omega
  · have e1 := en 1 (by omega)
    have e2 := en 2 (by omega)
    have e3 := en 3 (by omega)
    unfold zWS at ht ⊢
    omega
theorem zWS_ge {t : Nat → Int} {w : Nat} (ht : zWS t) (hw : 1 ≤ w ∧ w < 5) : 0 ≤ t w ↔ ¬ (t 0 = 1 ∧ ¬ w = 2) := by
  unfold zWS at ht
  rcases (show w = 1 ∨ w = 2 ∨ w = 3 ∨ w = 4 by omega) with rfl | rfl | rfl | rfl <;> omega
theorem zWE_set {n : Nat} {t t2 : Nat → Int} {w : Nat} {v : Int} (ht : zWE n t) (hw : 3 ≤ w ∧ w ≤ 5) (h0 : 0 ≤ t w) (hv : 0 ≤ v) (h1 : w = 5 → v < 6) (h3 : w < 5 → v < (n : Int)) (e : t2 w = v) (en : ∀ u, u ≠ w → t2 u = t u) : zWE n t2 := by
  have e0 := en 2 (by omega)
  rcases (show w = 3 ∨ w = 4 ∨ w = 5 by omega) with rfl | rfl | rfl
  · have e1 := en 4 (by omega)
    have e2 := en 5 (by omega)
    unfold zWE at ht ⊢
    omega
  · have e1 := en 3 (by omega)
    have e2 := en 5 (by omega)
    unfold zWE at ht ⊢
    omega
  · have e1 := en 3 (by omega)
    have e2 := en 4 (by omega)
    unfold zWE at ht ⊢
    omega
theorem zWE_ge {n : Nat} {t : Nat → Int} {w : Nat} (ht : zWE n t) (hw : 3 ≤ w ∧ w ≤ 5) : 0 ≤ t w ↔ ¬ t 2 = 2 ∧ ¬ (3 < w ∧ t 2 = 0) := by
  unfold zWE at ht
  rcases (show w = 3 ∨ w = 4 ∨ w = 5 by omega) with rfl | rfl | rfl <;> omega
theorem pq_19 : zPair zInv 19 122 3 := by
  rintro as hl h ⟨G, hi⟩
  obtain ⟨i, w, v, rfl⟩ := zas3 hl
  have hi2 : zAll h G := hi
  obtain ⟨ha, hb, hc, hd, hcp, hmp, hwc, hf, hr, hs, ht⟩ := hi
  obtain ⟨k1, k2, k3⟩ := hc.k
  obtain ⟨⟨a1, a2, a3, a4, a5, a6⟩, ⟨b1, b2, b3, b4, b5, b6⟩, c1, c2, c3, c4, c5, c6⟩ := hc
  have b2z : h 82 176 = (G.2.2.1 : Int) := b2
  have hx : (0 ≤ i ∧ i < h 12 8) → (1 ≤ w ∧ w < 5) → h 19 (i * 5 + w) = h 82 (24 * w + i) ∧ (0 ≤ h 19 (i * 5 + w) ↔ ¬ (h 82 i = 1 ∧ ¬ w = 2)) := by
    intro q1 q2
    obtain ⟨i, rfl⟩ := Int.eq_ofNat_of_zero_le q1.1
    obtain ⟨w, rfl⟩ := Int.eq_ofNat_of_zero_le (show 0 ≤ w by omega)
    have x1 : h 19 ((i : Int) * 5 + (w : Int)) = G.2.2.2.1 i w := a4 i w (by omega) (by omega)
    have x2 := b4 i w (by omega) (by omega)
    have x3 := b4 i 0 (by omega) (by omega)
    rw [Int.zero_add] at x2 x3
    have x4 := zWS_ge (w := w) (c4 i (by omega)) (by omega)
    have x5 : 24 * ((0 : Nat) : Int) + (i : Int) = (i : Int) := by omega
    rw [x5] at x3
    rw [x1, x2, x3, x4]
    exact ⟨rfl, by omega⟩
  refine s_19 k1 (fun q => ?_) (fun q => ?_)
  · obtain ⟨y1, y2⟩ := hx q.1 q.2.1
    generalize hh_h1 : zx_st (zx_st h 19 (i * 5 + w) v) 0 16 1 = h1
    have he_h1 : ∀ (r : Nat) (k : Int), ¬ (r = 19 ∧ k = i * 5 + w ∨ r = 0 ∧ k = 16) → h1 r k = h r k := by
      intro r k q
      subst hh_h1
      rw [zst_o (by omega), zst_o (by omega)]
    have x1 : h1 19 (i * 5 + w) = v := by
      subst hh_h1
      rw [zst_o (by omega), zst_eq]
    have x2 : h1 0 16 = 1 := by
      subst hh_h1
      exact zst_eq _ _ _ _
    have z1 := he_h1 82 176 (by omega)
    have z2 := he_h1 82 i (by omega)
    have z3 := he_h1 82 (24 * w + i) (by omega)
    have q2 := y2.mp q.2.2.1
    show zR 122 [.inr (.inr 81), .inl i, .inl w, .inl v] h1 _
    refine s_122 (by omega) (fun _ => ⟨⟨_, rfl, by rw [z3, y1]⟩, ?_⟩) (fun z => absurd ⟨by omega, q.2.1, by rw [z2]; exact q2, q.2.2.2⟩ z)
    generalize hh_h2 : zx_st (zx_st h1 82 (24 * w + i) v) 81 14 0 = h2
    have he_h2 : ∀ (r : Nat) (k : Int), ¬ (r = 82 ∧ k = 24 * w + i ∨ r = 81 ∧ k = 14) → h2 r k = h1 r k := by
      intro r k q
      subst hh_h2
      rw [zst_o (by omega), zst_o (by omega)]
    have x3 : h2 82 (24 * w + i) = v := by
      subst hh_h2
      rw [zst_o (by omega), zst_eq]
    have x4 : h2 81 14 = 0 := by
      subst hh_h2
      exact zst_eq _ _ _ _
    have x5 := (he_h2 0 16 (by omega)).trans x2
    have x6 := (he_h2 19 (i * 5 + w) (by omega)).trans x1
    have he : ∀ (r : Nat) (k : Int), ¬ (r = 19 ∧ k = i * 5 + w ∨ r = 0 ∧ k = 16 ∨ r = 82 ∧ k = 24 * w + i ∨ r = 81 ∧ k = 14) → h2 r k = h r k := fun r k q => (he_h2 r k (by omega)).trans (he_h1 r k (by omega))
    have hA : zIc h2 (G.1, G.2.1, G.2.2.1, fun j u => if j = i.toNat ∧ u = w.toNat then v else G.2.2.2.1 j u, G.2.2.2.2.1, G.2.2.2.2.2) := by
      refine ⟨⟨(he _ _ (by omega)).trans a1, (he _ _ (by omega)).trans a2, fun p w (hp : p < G.1) hw => (he _ _ (by omega)).trans (a3 p w hp hw), fun j u (hj : j < G.2.2.1) hu => ?_, fun u u0 u6 => (he _ _ (by omega)).trans (a5 u u0 u6), (he _ _ (by omega)).trans a6⟩, ⟨(he _ _ (by omega)).trans b1, (he _ _ (by omega)).trans b2, fun p w (hp : p < G.1) hw => (he _ _ (by omega)).trans (b3 p w hp hw), fun j u (hj : j < G.2.2.1) hu => ?_, fun u u0 u6 => (he _ _ (by omega)).trans (b5 u u0 u6), (he _ _ (by omega)).trans b6⟩, c1, c2, c3, fun j (hj : j < G.2.2.1) => ?_, c5, c6⟩
      · show h2 19 ((j : Int) * 5 + (u : Int)) = if j = i.toNat ∧ u = w.toNat then v else G.2.2.2.1 j u
        by_cases e : j = i.toNat ∧ u = w.toNat
        · rw [if_pos e, show (j : Int) * 5 + (u : Int) = i * 5 + w by omega]
          exact x6
        · rw [if_neg e]
          exact (he _ _ (by omega)).trans (a4 j u hj hu)
      · show h2 82 (0 + (24 * (u : Int) + (j : Int))) = if j = i.toNat ∧ u = w.toNat then v else G.2.2.2.1 j u
        by_cases e : j = i.toNat ∧ u = w.toNat
        · rw [if_pos e, show 0 + (24 * (u : Int) + (j : Int)) = 24 * w + i by omega]
          exact x3
        · rw [if_neg e]
          exact (he _ _ (by omega)).trans (b4 j u hj hu)
      · show zWS (fun u => if j = i.toNat ∧ u = w.toNat then v else G.2.2.2.1 j u)
        by_cases e : j = i.toNat
        · refine zWS_set (w := w.toNat) (v := v) (c4 j hj) (by omega) ?_ q.2.2.2.1 (by omega) (by omega) (by omega) (if_pos ⟨e, rfl⟩) (fun u hu => if_neg (fun z => hu z.2))
          have := a4 j w.toNat hj (by omega)
          rw [show (j : Int) * 5 + (w.toNat : Int) = i * 5 + w by omega] at this
          rw [← this]
          exact q.2.2.1
        · rw [show (fun u => if j = i.toNat ∧ u = w.toNat then v else G.2.2.2.1 j u) = G.2.2.2.1 j from funext fun u => if_neg (fun z => e z.1)]
          exact c4 j hj
    exact ⟨_, ha.fr (fun r k q => he r k (by omega)), ((he 1 2 (by omega)).trans (hb.trans (he 81 3 (by omega)).symm)), hA, ⟨hd.1.fr (by decide) (fun r k q => he r k (by omega)), hd.2.fr (by decide) (fun r k q => he r k (by omega))⟩, zCp.w _ x5, zMp.w _ x4, hwc.fr (fun k => he 84 k (by omega)) (fun k => he 85 k (by omega)), hf.fr (fun r k q => he r k (by omega)), hr.fr (fun r k q => he r k (by omega)), hs.fr (fun r k q => he r k (by omega)), ((he 0 13 (by omega)).trans (ht.trans (he 81 45 (by omega)).symm))⟩
  · refine s_122 k2 (fun z => absurd ⟨by omega, z.2.1, ((hx (by omega) z.2.1).2).mpr z.2.2.1, z.2.2.2⟩ q) (fun _ => ⟨⟨_, rfl, rfl⟩, G, hi2⟩)
theorem pq_20 : zPair zInv 20 123 3 := by
  rintro as hl h ⟨G, hi⟩
  obtain ⟨p, w, v, rfl⟩ := zas3 hl
  have hi2 : zAll h G := hi
  obtain ⟨ha, hb, hc, hd, hcp, hmp, hwc, hf, hr, hs, ht⟩ := hi
  obtain ⟨k1, k2, k3⟩ := hc.k
  obtain ⟨⟨a1, a2, a3, a4, a5, a6⟩, ⟨b1, b2, b3, b4, b5, b6⟩, c1, c2, c3, c4, c5, c6⟩ := hc
  have b1z : h 82 175 = (G.1 : Int) := b1
  have hx : (0 ≤ p ∧ p < h 12 7) → (3 ≤ w ∧ w ≤ 5) → h (13 + w.toNat) p = h 82 (120 + 8 * w + p) ∧ (0 ≤ h (13 + w.toNat) p ↔ (¬ h 82 (136 + p) = 2 ∧ ¬ (3 < w ∧ h 82 (136 + p) = 0))) := by
    intro q1 q2
    obtain ⟨p, rfl⟩ := Int.eq_ofNat_of_zero_le q1.1
    obtain ⟨w, rfl⟩ := Int.eq_ofNat_of_zero_le (show 0 ≤ w by omega)
    have x1 : h (13 + w) (p : Int) = G.2.1 p w := a3 p w (by omega) (by omega)
    have x2 := b3 p w (by omega) (by omega)
    have x3 := b3 p 2 (by omega) (by omega)
    rw [Int.zero_add] at x2 x3
    have x4 := zWE_ge (w := w) (c3 p (by omega)).2.2.2 (by omega)
    have x5 : 120 + 8 * ((2 : Nat) : Int) + (p : Int) = 136 + (p : Int) := by omega
    rw [x5] at x3
    rw [Int.toNat_natCast, x1, x2, x3, x4]
    exact ⟨rfl, by omega⟩
  refine s_20 (by omega) (fun q => ?_) (fun q => ?_)
  · obtain ⟨y1, y2⟩ := hx q.1 q.2.1
    generalize hh_h1 : zx_st (zx_st h (13 + w.toNat) p v) 0 16 1 = h1
    have he_h1 : ∀ (r : Nat) (k : Int), ¬ (r = 13 + w.toNat ∧ k = p ∨ r = 0 ∧ k = 16) → h1 r k = h r k := by
      intro r k q
      subst hh_h1
      rw [zst_o (by omega), zst_o (by omega)]
    have x1 : h1 (13 + w.toNat) p = v := by
      subst hh_h1
      rw [zst_o (by omega), zst_eq]
    have x2 : h1 0 16 = 1 := by
      subst hh_h1
      exact zst_eq _ _ _ _
    have z1 := he_h1 82 175 (by omega)
    have z2 := he_h1 82 (136 + p) (by omega)
    have z3 := he_h1 82 (120 + 8 * w + p) (by omega)
    have q2 := y2.mp q.2.2.1
    have q3 := q.2.2.2
    show zR 123 [.inr (.inr 81), .inl p, .inl w, .inl v] h1 _
    refine s_123 (by omega) (fun _ => ⟨⟨_, rfl, by rw [z3, y1]⟩, ?_⟩) (fun z => absurd ⟨by omega, q.2.1, by rw [z2]; exact q2.1, by rw [z2]; exact q2.2, q3.1, q3.2.1, fun u => by have := q3.2.2 u; omega⟩ z)
    generalize hh_h2 : zx_st (zx_st h1 82 (120 + 8 * w + p) v) 81 14 0 = h2
    have he_h2 : ∀ (r : Nat) (k : Int), ¬ (r = 82 ∧ k = 120 + 8 * w + p ∨ r = 81 ∧ k = 14) → h2 r k = h1 r k := by
      intro r k q
      subst hh_h2
      rw [zst_o (by omega), zst_o (by omega)]
    have x3 : h2 82 (120 + 8 * w + p) = v := by
      subst hh_h2
      rw [zst_o (by omega), zst_eq]
    have x4 : h2 81 14 = 0 := by
      subst hh_h2
      exact zst_eq _ _ _ _
    have x5 := (he_h2 0 16 (by omega)).trans x2
    have x6 := (he_h2 (13 + w.toNat) p (by omega)).trans x1
    have he : ∀ (r : Nat) (k : Int), ¬ (r = 13 + w.toNat ∧ k = p ∨ r = 0 ∧ k = 16 ∨ r = 82 ∧ k = 120 + 8 * w + p ∨ r = 81 ∧ k = 14) → h2 r k = h r k := fun r k q => (he_h2 r k (by omega)).trans (he_h1 r k (by omega))
    have hA : zIc h2 (G.1, fun j u => if j = p.toNat ∧ u = w.toNat then v else G.2.1 j u, G.2.2.1, G.2.2.2.1, G.2.2.2.2.1, G.2.2.2.2.2) := by
      refine ⟨⟨(he _ _ (by omega)).trans a1, (he _ _ (by omega)).trans a2, fun j u (hj : j < G.1) hu => ?_, fun i w (hi : i < G.2.2.1) hw => (he _ _ (by omega)).trans (a4 i w hi hw), fun u u0 u6 => (he _ _ (by omega)).trans (a5 u u0 u6), (he _ _ (by omega)).trans a6⟩, ⟨(he _ _ (by omega)).trans b1, (he _ _ (by omega)).trans b2, fun j u (hj : j < G.1) hu => ?_, fun i w (hi : i < G.2.2.1) hw => (he _ _ (by omega)).trans (b4 i w hi hw), fun u u0 u6 => (he _ _ (by omega)).trans (b5 u u0 u6), (he _ _ (by omega)).trans b6⟩, c1, c2, fun j (hj : j < G.1) => ?_, c4, c5, c6⟩
      · show h2 (12 + 1 + u) (j : Int) = if j = p.toNat ∧ u = w.toNat then v else G.2.1 j u
        by_cases e : j = p.toNat ∧ u = w.toNat
        · rw [if_pos e, show (j : Int) = p by omega, show 12 + 1 + u = 13 + w.toNat by omega]
          exact x6
        · rw [if_neg e]
          exact (he _ _ (by omega)).trans (a3 j u hj hu)
      · show h2 82 (0 + (120 + 8 * (u : Int) + (j : Int))) = if j = p.toNat ∧ u = w.toNat then v else G.2.1 j u
        by_cases e : j = p.toNat ∧ u = w.toNat
        · rw [if_pos e, show 0 + (120 + 8 * (u : Int) + (j : Int)) = 120 + 8 * w + p by omega]
          exact x3
        · rw [if_neg e]
          exact (he _ _ (by omega)).trans (b3 j u hj hu)
      · have cj := c3 j hj
        refine ⟨?_, ?_, ?_, ?_⟩
        · show 0 ≤ (if j = p.toNat ∧ 0 = w.toNat then v else G.2.1 j 0)
          rw [if_neg (by omega)]
          exact cj.1
        · show 0 ≤ (if j = p.toNat ∧ 1 = w.toNat then v else G.2.1 j 1)
          rw [if_neg (by omega)]
          exact cj.2.1
        · show (if j = p.toNat ∧ 0 = w.toNat then v else G.2.1 j 0) + (if j = p.toNat ∧ 1 = w.toNat then v else G.2.1 j 1) ≤ (G.2.2.1 : Int)
          rw [if_neg (by omega), if_neg (by omega)]
          exact cj.2.2.1
        show zWE G.1 (fun u => if j = p.toNat ∧ u = w.toNat then v else G.2.1 j u)
        by_cases e : j = p.toNat
        · refine zWE_set (w := w.toNat) (v := v) cj.2.2.2 (by omega) ?_ q3.1 (fun z => q3.2.1 (by omega)) (fun z => by have := q3.2.2 (by omega); omega) (if_pos ⟨e, rfl⟩) (fun u hu => if_neg (fun z => hu z.2))
          have := a3 j w.toNat hj (by omega)
          rw [show (j : Int) = p by omega, show 12 + 1 + w.toNat = 13 + w.toNat by omega] at this
          rw [← this]
          exact q.2.2.1
        · rw [show (fun u => if j = p.toNat ∧ u = w.toNat then v else G.2.1 j u) = G.2.1 j from funext fun u => if_neg (fun z => e z.1)]
          exact cj.2.2.2
    exact ⟨_, ha.fr (fun r k q => he r k (by omega)), ((he 1 2 (by omega)).trans (hb.trans (he 81 3 (by omega)).symm)), hA, ⟨hd.1.fr (by decide) (fun r k q => he r k (by omega)), hd.2.fr (by decide) (fun r k q => he r k (by omega))⟩, zCp.w _ x5, zMp.w _ x4, hwc.fr (fun k => he 84 k (by omega)) (fun k => he 85 k (by omega)), hf.fr (fun r k q => he r k (by omega)), hr.fr (fun r k q => he r k (by omega)), hs.fr (fun r k q => he r k (by omega)), ((he 0 13 (by omega)).trans (ht.trans (he 81 45 (by omega)).symm))⟩
  · refine s_123 k3 (fun z => absurd ⟨by omega, z.2.1, ((hx (by omega) z.2.1).2).mpr ⟨z.2.2.1, z.2.2.2.1⟩, z.2.2.2.2.1, z.2.2.2.2.2.1, fun u => by have := z.2.2.2.2.2.2 u; omega⟩ q) (fun _ => ⟨⟨_, rfl, rfl⟩, G, hi2⟩)
