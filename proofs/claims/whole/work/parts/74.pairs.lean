/-! The pairs: what they have in common -/
theorem zle_f {a b : Nat} : Nat.ble a b = false ↔ ¬ a ≤ b := by
  rw [← Nat.ble_eq]
  cases Nat.ble a b <;> simp
theorem zeq_f {a b : Nat} : Nat.beq a b = false ↔ ¬ a = b := by
  rw [← Nat.beq_eq]
  cases Nat.beq a b <;> simp
theorem zas0 {as : List Int} (h : as.length = 0) : as = [] := by
  match as, h with
  | [], _ => rfl
theorem zas1 {as : List Int} (h : as.length = 1) : ∃ a, as = [a] := by
  match as, h with
  | [a], _ => exact ⟨a, rfl⟩
theorem zas2 {as : List Int} (h : as.length = 2) : ∃ a b, as = [a, b] := by
  match as, h with
  | [a, b], _ => exact ⟨a, b, rfl⟩
theorem zas3 {as : List Int} (h : as.length = 3) : ∃ a b c, as = [a, b, c] := by
  match as, h with
  | [a, b, c], _ => exact ⟨a, b, c, rfl⟩
theorem zas4 {as : List Int} (h : as.length = 4) : ∃ a b c d, as = [a, b, c, d] := by
  match as, h with
  | [a, b, c, d], _ => exact ⟨a, b, c, d, rfl⟩
def zAll (h : zM) (G : zG) : Prop := zIa h ∧ zIb h ∧ zIc h G ∧ (zId h 0 ∧ zId h 1) ∧ zCp h G ∧ zMp h G ∧ zWc h ∧ zIf h ∧ zIr h ∧ zIs h ∧ zIt h
theorem zst_o {h : zM} {a : Nat} {b v : Int} {r : Nat} {k : Int} (hn : ¬ (r = a ∧ k = b)) : zx_st h a b v r k = h r k := if_neg hn
theorem zst_i {h : zM} {a : Nat} {b v : Int} {r : Nat} {k : Int} (hn : r = a ∧ k = b) : zx_st h a b v r k = v := if_pos hn
theorem zRd.q {h h2 : zM} {a : Nat} {r : zRr} (hr : zRd h a r) (e : ∀ k, h2 a k = h a k) (e1 : ∀ k, h2 (a + 1) k = h (a + 1) k) : zRd h2 a r := by
  obtain ⟨⟨c1, c2, c3, c4⟩, c5, c6⟩ := hr
  exact ⟨⟨(e _).trans c1, (e _).trans c2, (e _).trans c3, fun v v0 v6 => (e1 _).trans (c4 v v0 v6)⟩, (e _).trans c5, (e _).trans c6⟩
theorem zIc.k {h : zM} {G : zG} (hc : zIc h G) : zWk h 12 ∧ (0 ≤ h 82 176 ∧ h 82 176 ≤ 24) ∧ (0 ≤ h 82 175 ∧ h 82 175 ≤ 8) := by
  obtain ⟨a, b, c⟩ := hc
  have w1 := c.1
  have w2 := c.2.1
  have a1 := a.1
  have a2 := a.2.1
  have b1 : h 82 175 = (G.1 : Int) := b.1
  have b2 : h 82 176 = (G.2.2.1 : Int) := b.2.1
  have e1 : zWn 12 = 8 := rfl
  have e2 : zWs 12 = 24 := rfl
  refine ⟨?_, by omega, by omega⟩
  unfold zWk
  omega
theorem zIf.b {h : zM} (hf : zIf h) : zVb (h 70) := fun v v0 v6 => (hf v v0 v6).2
theorem zCp.w {h : zM} (G : zG) (e : h 0 16 = 1) : zCp h G := ⟨Or.inr e, fun q => absurd (q.symm.trans e) (by decide)⟩
theorem zMp.w {h : zM} (G : zG) (e : h 81 14 = 0) : zMp h G := ⟨Or.inl e, fun q => absurd (q.symm.trans e) (by decide)⟩
theorem zCf_q {h h2 : zM} (hF : zF zCf h h2) (r : Nat) (k : Int) (q : ¬ ((36 ≤ r ∧ r ≤ 43) ∨ (52 ≤ r ∧ r ≤ 63) ∨ r = 0 ∧ (k = 14 ∨ k = 16))) : h2 r k = h r k := hF r k (by
  unfold zCf zNf zQf zDf
  simp only [Bool.or_eq_false_iff, Bool.and_eq_false_iff, decide_eq_false_iff_not, zle_f, zeq_f]
  omega)
theorem zMg_q {h h2 : zM} (hF : zF zMg h h2) (r : Nat) (k : Int) (q : ¬ ((86 ≤ r ∧ r ≤ 97) ∨ r = 81 ∧ (k = 12 ∨ k = 14 ∨ k = 15 ∨ k = 16 ∨ k = 27))) : h2 r k = h r k := hF r k (by
  unfold zMg zMn zPf zMq
  simp only [Bool.or_eq_false_iff, Bool.and_eq_false_iff, decide_eq_false_iff_not, zle_f, zeq_f]
  omega)
theorem zRu_q {h h2 : zM} (hF : zF zRu h h2) (r : Nat) (k : Int) (q : ¬ (r = 64 ∨ r = 65 ∨ r = 0 ∧ k = 15)) : h2 r k = h r k := hF r k (by
  unfold zRu zRg
  simp only [Bool.or_eq_false_iff, Bool.and_eq_false_iff, decide_eq_false_iff_not, zle_f, zeq_f]
  omega)
theorem zMu_q {h h2 : zM} (hF : zF zMu h h2) (r : Nat) (k : Int) (q : ¬ ((99 ≤ r ∧ r ≤ 101) ∨ r = 81 ∧ 31 ≤ k ∧ k ≤ 36)) : h2 r k = h r k := hF r k (by
  unfold zMu
  simp only [Bool.or_eq_false_iff, Bool.and_eq_false_iff, decide_eq_false_iff_not, zle_f, zeq_f]
  omega)
theorem zXe_q {h h2 : zM} (hF : zF zXe h h2) (r : Nat) (k : Int) (q : ¬ (r = 1 ∨ (4 ≤ r ∧ r ≤ 11) ∨ r = 2 ∧ k = 1)) : h2 r k = h r k := hF r k (by
  unfold zXe zGf zTf
  simp only [Bool.or_eq_false_iff, Bool.and_eq_false_iff, decide_eq_false_iff_not, zle_f, zeq_f]
  omega)
theorem zYe_q {h h2 : zM} (hF : zF zYe h h2) (r : Nat) (k : Int) (q : ¬ (r = 81 ∧ 2 ≤ k ∧ k ≤ 9 ∨ r = 82 ∧ 531 ≤ k)) : h2 r k = h r k := hF r k (by
  unfold zYe zYd zRm
  simp only [Bool.or_eq_false_iff, Bool.and_eq_false_iff, decide_eq_false_iff_not, zle_f, zeq_f]
  omega)
theorem zCh_q {h h2 : zM} (hF : zF zCh h h2) (r : Nat) (k : Int) (q : ¬ ((36 ≤ r ∧ r ≤ 43) ∨ (52 ≤ r ∧ r ≤ 63) ∨ r = 0 ∧ (k = 14 ∨ k = 16) ∨ r = 64 ∨ r = 65 ∨ r = 0 ∧ k = 15)) : h2 r k = h r k := hF r k (by
  unfold zCh zCf zNf zQf zDf zRu zRg
  simp only [Bool.or_eq_false_iff, Bool.and_eq_false_iff, decide_eq_false_iff_not, zle_f, zeq_f]
  omega)
theorem zMv_q {h h2 : zM} (hF : zF zMv h h2) (r : Nat) (k : Int) (q : ¬ ((86 ≤ r ∧ r ≤ 97) ∨ r = 81 ∧ (k = 12 ∨ k = 14 ∨ k = 15 ∨ k = 16 ∨ k = 27) ∨ (99 ≤ r ∧ r ≤ 101) ∨ r = 81 ∧ 31 ≤ k ∧ k ≤ 36)) : h2 r k = h r k := hF r k (by
  unfold zMv zMg zMn zPf zMq zMu
  simp only [Bool.or_eq_false_iff, Bool.and_eq_false_iff, decide_eq_false_iff_not, zle_f, zeq_f]
  omega)
theorem zCa_q {h h2 : zM} (hF : zF zCa h h2) (r : Nat) (k : Int) (q : ¬ ((36 ≤ r ∧ r ≤ 43) ∨ (52 ≤ r ∧ r ≤ 63) ∨ r = 0 ∧ (k = 14 ∨ k = 16) ∨ (66 ≤ r ∧ r ≤ 69) ∨ r = 71)) : h2 r k = h r k := hF r k (by
  unfold zCa zCf zNf zQf zDf
  simp only [Bool.or_eq_false_iff, Bool.and_eq_false_iff, decide_eq_false_iff_not, zle_f, zeq_f]
  omega)
theorem zMa_q {h h2 : zM} (hF : zF zMa h h2) (r : Nat) (k : Int) (q : ¬ ((86 ≤ r ∧ r ≤ 97) ∨ r = 81 ∧ (k = 12 ∨ k = 14 ∨ k = 15 ∨ k = 16 ∨ k = 27) ∨ r = 99 ∨ r = 101 ∨ r = 102 ∨ r = 81 ∧ 31 ≤ k ∧ k ≤ 35)) : h2 r k = h r k := hF r k (by
  unfold zMa zMw zMf zMg zMn zPf zMq
  simp only [Bool.or_eq_false_iff, Bool.and_eq_false_iff, decide_eq_false_iff_not, zle_f, zeq_f]
  omega)
theorem zXf_q {h h2 : zM} (hF : zF zXf h h2) (r : Nat) (k : Int) (q : ¬ (r = 1 ∨ (4 ≤ r ∧ r ≤ 11) ∨ r = 2 ∧ k = 1 ∨ (12 ≤ r ∧ r ≤ 19) ∨ r = 44 ∨ r = 45 ∨ r = 51 ∨ r = 0 ∧ (k = 15 ∨ k = 16))) : h2 r k = h r k := hF r k (by
  unfold zXf zXe zGf zTf
  simp only [Bool.or_eq_false_iff, Bool.and_eq_false_iff, decide_eq_false_iff_not, zle_f, zeq_f]
  omega)
theorem zYxf_q {h h2 : zM} (hF : zF zYxf h h2) (r : Nat) (k : Int) (q : ¬ (r = 81 ∧ 2 ≤ k ∧ k ≤ 9 ∨ r = 82 ∧ 531 ≤ k ∨ r = 81 ∧ (k = 14 ∨ k = 36) ∨ r = 82 ∧ k < 177 ∨ r = 103)) : h2 r k = h r k := hF r k (by
  unfold zYxf zYe zYd zRm
  simp only [Bool.or_eq_false_iff, Bool.and_eq_false_iff, decide_eq_false_iff_not, zle_f, zeq_f]
  omega)
theorem zask1 {h h1 : zM} {G : zG} (hi : zAll h G) (hF1 : zF zCf h h1) : zPm h1 0 G ∧ zMp h1 G ∧ zWc h1 := by
  obtain ⟨ha, hb, hc, hd, hcp, hmp, hwc, hf, hr, hs, ht⟩ := hi
  have he1 : ∀ (r : Nat) (k : Int), ¬ ((36 ≤ r ∧ r ≤ 43) ∨ (52 ≤ r ∧ r ≤ 63) ∨ r = 0 ∧ (k = 14 ∨ k = 16)) → h1 r k = h r k := fun r k q => zCf_q hF1 r k q
  exact ⟨(hc.fr (fun r k q => he1 r k (by omega))).2.1, hmp.fr (fun k q => he1 81 k (by omega)) (fun r k q => he1 r k (by omega)), hwc.fr (fun k => he1 84 k (by omega)) (fun k => he1 85 k (by omega))⟩
theorem zask2 {h h1 h2 : zM} {G : zG} (hi : zAll h G) (hF1 : zF zCf h h1) (hcp1 : zCp h1 G) (hF2 : zF zMg h1 h2) (hmp2 : zMp h2 G) : zInv h2 := by
  obtain ⟨ha, hb, hc, hd, hcp, hmp, hwc, hf, hr, hs, ht⟩ := hi
  have he : ∀ (r : Nat) (k : Int), ¬ (((36 ≤ r ∧ r ≤ 43) ∨ (52 ≤ r ∧ r ≤ 63) ∨ r = 0 ∧ (k = 14 ∨ k = 16)) ∨ (86 ≤ r ∧ r ≤ 97) ∨ r = 81 ∧ (k = 12 ∨ k = 14 ∨ k = 15 ∨ k = 16 ∨ k = 27)) → h2 r k = h r k := fun r k q => (zMg_q hF2 r k (by omega)).trans (zCf_q hF1 r k (by omega))
  have he2 : ∀ (r : Nat) (k : Int), ¬ ((86 ≤ r ∧ r ≤ 97) ∨ r = 81 ∧ (k = 12 ∨ k = 14 ∨ k = 15 ∨ k = 16 ∨ k = 27)) → h2 r k = h1 r k := fun r k q => zMg_q hF2 r k q
  exact ⟨G, ha.fr (fun r k q => he r k (by omega)), ((he 1 2 (by omega)).trans (hb.trans (he 81 3 (by omega)).symm)), hc.fr (fun r k q => he r k (by omega)), ⟨hd.1.fr (by decide) (fun r k q => he r k (by omega)), hd.2.fr (by decide) (fun r k q => he r k (by omega))⟩, hcp1.fr (fun k q => he2 0 k (by omega)) (fun r k q => he2 r k (by omega)), hmp2, hwc.fr (fun k => he 84 k (by omega)) (fun k => he 85 k (by omega)), hf.fr (fun r k q => he r k (by omega)), hr.fr (fun r k q => he r k (by omega)), hs.fr (fun r k q => he r k (by omega)), ((he 0 13 (by omega)).trans (ht.trans (he 81 45 (by omega)).symm))⟩
theorem zask1a {h h1 : zM} {G : zG} (hi : zAll h G) (hF1 : zF zCa h h1) : zPm h1 0 G ∧ zMp h1 G ∧ zWc h1 := by
  obtain ⟨ha, hb, hc, hd, hcp, hmp, hwc, hf, hr, hs, ht⟩ := hi
  have he1 : ∀ (r : Nat) (k : Int), ¬ ((36 ≤ r ∧ r ≤ 43) ∨ (52 ≤ r ∧ r ≤ 63) ∨ r = 0 ∧ (k = 14 ∨ k = 16) ∨ (66 ≤ r ∧ r ≤ 69) ∨ r = 71) → h1 r k = h r k := fun r k q => zCa_q hF1 r k q
  exact ⟨(hc.fr (fun r k q => he1 r k (by omega))).2.1, hmp.fr (fun k q => he1 81 k (by omega)) (fun r k q => he1 r k (by omega)), hwc.fr (fun k => he1 84 k (by omega)) (fun k => he1 85 k (by omega))⟩
theorem zask2a {h h1 h2 : zM} {G : zG} (hi : zAll h G) (hF1 : zF zCa h h1) (hcp1 : zCp h1 G) (hF2 : zF zMa h1 h2) (hmp2 : zMp h2 G) : zInv h2 := by
  obtain ⟨ha, hb, hc, hd, hcp, hmp, hwc, hf, hr, hs, ht⟩ := hi
  have he : ∀ (r : Nat) (k : Int), ¬ (((36 ≤ r ∧ r ≤ 43) ∨ (52 ≤ r ∧ r ≤ 63) ∨ r = 0 ∧ (k = 14 ∨ k = 16) ∨ (66 ≤ r ∧ r ≤ 69) ∨ r = 71) ∨ (86 ≤ r ∧ r ≤ 97) ∨ r = 81 ∧ (k = 12 ∨ k = 14 ∨ k = 15 ∨ k = 16 ∨ k = 27) ∨ r = 99 ∨ r = 101 ∨ r = 102 ∨ r = 81 ∧ 31 ≤ k ∧ k ≤ 35) → h2 r k = h r k := fun r k q => (zMa_q hF2 r k (by omega)).trans (zCa_q hF1 r k (by omega))
  have he2 : ∀ (r : Nat) (k : Int), ¬ ((86 ≤ r ∧ r ≤ 97) ∨ r = 81 ∧ (k = 12 ∨ k = 14 ∨ k = 15 ∨ k = 16 ∨ k = 27) ∨ r = 99 ∨ r = 101 ∨ r = 102 ∨ r = 81 ∧ 31 ≤ k ∧ k ≤ 35) → h2 r k = h1 r k := fun r k q => zMa_q hF2 r k q
  exact ⟨G, ha.fr (fun r k q => he r k (by omega)), ((he 1 2 (by omega)).trans (hb.trans (he 81 3 (by omega)).symm)), hc.fr (fun r k q => he r k (by omega)), ⟨hd.1.fr (by decide) (fun r k q => he r k (by omega)), hd.2.fr (by decide) (fun r k q => he r k (by omega))⟩, hcp1.fr (fun k q => he2 0 k (by omega)) (fun r k q => he2 r k (by omega)), hmp2, hwc.fr (fun k => he 84 k (by omega)) (fun k => he 85 k (by omega)), hf.fr (fun r k q => he r k (by omega)), hr.fr (fun r k q => he r k (by omega)), hs.fr (fun r k q => he r k (by omega)), ((he 0 13 (by omega)).trans (ht.trans (he 81 45 (by omega)).symm))⟩
theorem pq_4 : zPair zInv 4 88 1 := by
  rintro as hl h ⟨G, hi⟩
  obtain ⟨a, rfl⟩ := zas1 hl
  have hi2 : zAll h G := hi
  obtain ⟨ha, hb, hc, hd, hcp, hmp, hwc, hf, hr, hs, ht⟩ := hi
  refine s_4 hc.1 hc.2.2 hcp (fun h1 hF1 hcp1 => ?_)
  obtain ⟨m1, m2, m3⟩ := zask1 hi2 hF1
  exact s_88 m1 hc.2.2 m2 m3 (fun h2 hF2 hmp2 => ⟨⟨_, rfl, rfl⟩, zask2 hi2 hF1 hcp1 hF2 hmp2⟩)
theorem pq_5 : zPair zInv 5 89 2 := by
  rintro as hl h ⟨G, hi⟩
  obtain ⟨a, b, rfl⟩ := zas2 hl
  have hi2 : zAll h G := hi
  obtain ⟨ha, hb, hc, hd, hcp, hmp, hwc, hf, hr, hs, ht⟩ := hi
  refine s_5 hc.1 hc.2.2 hcp (fun h1 hF1 hcp1 => ?_)
  obtain ⟨m1, m2, m3⟩ := zask1 hi2 hF1
  exact s_89 m1 hc.2.2 m2 (fun h2 hF2 hmp2 => ⟨⟨_, rfl, rfl⟩, zask2 hi2 hF1 hcp1 hF2 hmp2⟩)
theorem pq_9 : zPair zInv 9 94 2 := by
  rintro as hl h ⟨G, hi⟩
  obtain ⟨a, b, rfl⟩ := zas2 hl
  have hi2 : zAll h G := hi
  obtain ⟨ha, hb, hc, hd, hcp, hmp, hwc, hf, hr, hs, ht⟩ := hi
  refine s_9 hc.1 hc.2.2 hcp (fun h1 hF1 hcp1 => ?_)
  obtain ⟨m1, m2, m3⟩ := zask1 hi2 hF1
  exact s_94 m1 hc.2.2 m2 m3 (fun h2 hF2 hmp2 => ⟨⟨_, rfl, rfl⟩, zask2 hi2 hF1 hcp1 hF2 hmp2⟩)
theorem pq_10 : zPair zInv 10 95 2 := by
  rintro as hl h ⟨G, hi⟩
  obtain ⟨a, b, rfl⟩ := zas2 hl
  have hi2 : zAll h G := hi
  obtain ⟨ha, hb, hc, hd, hcp, hmp, hwc, hf, hr, hs, ht⟩ := hi
  refine s_10 hc.1 hc.2.2 hcp (fun h1 hF1 hcp1 => ?_)
  obtain ⟨m1, m2, m3⟩ := zask1 hi2 hF1
  exact s_95 m1 hc.2.2 m2 (fun h2 hF2 hmp2 => ⟨⟨_, rfl, rfl⟩, zask2 hi2 hF1 hcp1 hF2 hmp2⟩)
theorem pq_11 : zPair zInv 11 96 3 := by
  rintro as hl h ⟨G, hi⟩
  obtain ⟨a, b, c, rfl⟩ := zas3 hl
  have hi2 : zAll h G := hi
  obtain ⟨ha, hb, hc, hd, hcp, hmp, hwc, hf, hr, hs, ht⟩ := hi
  refine s_11 hc.1 hc.2.2 hcp (fun h1 hF1 hcp1 => ?_)
  obtain ⟨m1, m2, m3⟩ := zask1 hi2 hF1
  exact s_96 m1 hc.2.2 m2 (fun h2 hF2 hmp2 => ⟨⟨_, rfl, rfl⟩, zask2 hi2 hF1 hcp1 hF2 hmp2⟩)
theorem pq_12 : zPair zInv 12 104 2 := by
  rintro as hl h ⟨G, hi⟩
  obtain ⟨a, b, rfl⟩ := zas2 hl
  have hi2 : zAll h G := hi
  obtain ⟨ha, hb, hc, hd, hcp, hmp, hwc, hf, hr, hs, ht⟩ := hi
  refine s_12 hc.1 hc.2.2 hcp (fun h1 hF1 hcp1 => ?_)
  obtain ⟨m1, m2, m3⟩ := zask1 hi2 hF1
  exact s_104 m1 hc.2.2 m2 m3 (fun h2 hF2 hmp2 => ⟨⟨_, rfl, rfl⟩, zask2 hi2 hF1 hcp1 hF2 hmp2⟩)
theorem pq_18 : zPair zInv 18 119 3 := by
  rintro as hl h ⟨G, hi⟩
  obtain ⟨a, b, c, rfl⟩ := zas3 hl
  have hi2 : zAll h G := hi
  obtain ⟨ha, hb, hc, hd, hcp, hmp, hwc, hf, hr, hs, ht⟩ := hi
  refine s_18 hc.1 hc.2.2 hcp (fun h1 hF1 hcp1 => ?_)
  obtain ⟨m1, m2, m3⟩ := zask1a hi2 hF1
  exact s_119 m1 hc.2.2 m2 (fun h2 hF2 hmp2 => ⟨⟨_, rfl, rfl⟩, zask2a hi2 hF1 hcp1 hF2 hmp2⟩)
theorem pq_13 : zPair zInv 13 105 4 := by
  rintro as hl h ⟨G, hi⟩
  obtain ⟨a, b, c, d, rfl⟩ := zas4 hl
  have hi2 : zAll h G := hi
  obtain ⟨ha, hb, hc, hd, hcp, hmp, hwc, hf, hr, hs, ht⟩ := hi
  refine s_13 hc.1 hc.2.2 hcp (fun x h1 hx hF1 hcp1 => ?_)
  obtain ⟨m1, m2, m3⟩ := zask1 hi2 hF1
  exact s_105 m1 hc.2.2 m2 m3 (fun y h2 hy hF2 hmp2 => ⟨⟨x, rfl, by rw [zaW_u hx hy]⟩, zask2 hi2 hF1 hcp1 hF2 hmp2⟩)
theorem pq_3 : zPair zInv 3 66 0 := by
  rintro as hl h ⟨G, hi⟩
  obtain rfl := zas0 hl
  have hb : zIb h := hi.2.1
  refine s_3 (s_66 ⟨⟨_, rfl, ?_⟩, G, hi⟩)
  rw [hb]
theorem pq_26 : zPair zInv 26 130 0 := by
  rintro as hl h ⟨G, hi⟩
  obtain rfl := zas0 hl
  have ht : zIt h := hi.2.2.2.2.2.2.2.2.2.2
  refine s_26 (s_130 ⟨⟨_, rfl, ?_⟩, G, hi⟩)
  rw [ht]
theorem pq_6 : zPair zInv 6 90 2 := by
  rintro as hl h ⟨G, hi⟩
  obtain ⟨i, w, rfl⟩ := zas2 hl
  have hc : zIc h G := hi.2.2.1
  obtain ⟨k1, k2, k3⟩ := hc.k
  obtain ⟨⟨a1, a2, a3, a4, a5, a6⟩, ⟨b1, b2, b3, b4, b5, b6⟩, _⟩ := hc
  have e2 : h 12 8 = h 82 176 := a2.trans b2.symm
  refine s_6 k1 (fun q => s_90 k2 (fun q2 => ⟨⟨_, rfl, ?_⟩, G, hi⟩) (fun q2 => absurd (by omega) q2)) (fun q => s_90 k2 (fun q2 => absurd (by omega) q) (fun q2 => ⟨⟨_, rfl, rfl⟩, G, hi⟩))
  obtain ⟨i, rfl⟩ := Int.eq_ofNat_of_zero_le q.1.1
  obtain ⟨w, rfl⟩ := Int.eq_ofNat_of_zero_le q.2.1
  have x1 : h 19 ((i : Int) * 5 + (w : Int)) = G.2.2.2.1 i w := a4 i w (by omega) (by omega)
  have x2 := b4 i w (by omega) (by omega)
  rw [Int.zero_add] at x2
  rw [x1, x2]
theorem pq_17 : zPair zInv 17 117 1 := by
  rintro as hl h ⟨G, hi⟩
  obtain ⟨w, rfl⟩ := zas1 hl
  have hr : zIr h := hi.2.2.2.2.2.2.2.2.1
  have hr2 := hr
  obtain ⟨r1, r2⟩ := hr
  have r3 : ∃ r, ¬ h 0 15 = 0 → zRd h 64 r ∧ zMl h r := by
    by_cases q : h 0 15 = 0
    · exact ⟨zro G (h 70), fun z => absurd q z⟩
    · obtain ⟨r, hr⟩ := r2 q
      exact ⟨r, fun _ => hr⟩
  obtain ⟨r, r4⟩ := r3
  refine s_17 (fun q => (r4 q).1) (s_117 (fun q => (r4 (by rw [r1]; exact q)).2) ⟨⟨_, rfl, ?_⟩, G, hi⟩)
  rw [r1]
theorem pq_15 : zPair zInv 15 115 0 := by
  rintro as hl h ⟨G, hi⟩
  obtain rfl := zas0 hl
  obtain ⟨ha, hb, hc, hd, hcp, hmp, hwc, hf, hr, hs, ht⟩ := hi
  refine s_15 hc.1 hc.2.2 (f := h 70) (fun v _ _ => rfl) hf.b (fun h1 hF1 e15 hr1 => ?_)
  have he1 : ∀ (r : Nat) (k : Int), ¬ (r = 64 ∨ r = 65 ∨ r = 0 ∧ k = 15) → h1 r k = h r k := fun r k q => zRu_q hF1 r k q
  refine s_115 (G := G) (hc.fr (fun r k q => he1 r k (by omega))).2.1 hc.2.2 (f := h 70) (fun v v0 v6 => (he1 98 v (by omega)).trans (hf v v0 v6).1.symm) hf.b (fun h2 hF2 e36 hl2 => ⟨⟨_, rfl, rfl⟩, ?_⟩)
  have he : ∀ (r : Nat) (k : Int), ¬ ((r = 64 ∨ r = 65 ∨ r = 0 ∧ k = 15) ∨ (99 ≤ r ∧ r ≤ 101) ∨ r = 81 ∧ 31 ≤ k ∧ k ≤ 36) → h2 r k = h r k := fun r k q => (zMu_q hF2 r k (by omega)).trans (zRu_q hF1 r k (by omega))
  have he2 : ∀ (r : Nat) (k : Int), ¬ ((99 ≤ r ∧ r ≤ 101) ∨ r = 81 ∧ 31 ≤ k ∧ k ≤ 36) → h2 r k = h1 r k := fun r k q => zMu_q hF2 r k q
  have e15b : h2 0 15 = 1 := (he2 0 15 (by omega)).trans e15
  exact ⟨G, ha.fr (fun r k q => he r k (by omega)), ((he 1 2 (by omega)).trans (hb.trans (he 81 3 (by omega)).symm)), hc.fr (fun r k q => he r k (by omega)), ⟨hd.1.fr (by decide) (fun r k q => he r k (by omega)), hd.2.fr (by decide) (fun r k q => he r k (by omega))⟩, hcp.fr (fun k q => he 0 k (by omega)) (fun r k q => he r k (by omega)), hmp.fr (fun k q => he 81 k (by omega)) (fun r k q => he r k (by omega)), hwc.fr (fun k => he 84 k (by omega)) (fun k => he 85 k (by omega)), hf.fr (fun r k q => he r k (by omega)), ⟨e15b.trans e36.symm, fun _ => ⟨_, hr1.q (fun k => he2 _ _ (by omega)) (fun k => he2 _ _ (by omega)), hl2⟩⟩, hs.fr (fun r k q => he r k (by omega)), ((he 0 13 (by omega)).trans (ht.trans (he 81 45 (by omega)).symm))⟩
theorem pq_16 : zPair zInv 16 116 0 := by
  rintro as hl h ⟨G, hi⟩
  obtain rfl := zas0 hl
  have hi2 : zAll h G := hi
  obtain ⟨ha, hb, hc, hd, hcp, hmp, hwc, hf, hr, hs, ht⟩ := hi
  refine s_16 hc.1 hc.2.2 hcp (f := h 70) (fun v _ _ => rfl) hf.b (fun z0 h1 hF1 hcp1 => ?_) (fun z1 h1 hF1 hcp1 e15 hr1 => ?_)
  · obtain ⟨m1, m2, m3⟩ := zask1 hi2 hF1
    exact s_116 m1 hc.2.2 m2 (f := h 70) (fun v v0 v6 => (zCf_q hF1 98 v (by omega)).trans (hf v v0 v6).1.symm) hf.b (fun _ h2 hF2 hmp2 => ⟨⟨_, rfl, rfl⟩, zask2 hi2 hF1 hcp1 hF2 hmp2⟩) (fun z1 => absurd z1 (by omega))
  · have he1 : ∀ (r : Nat) (k : Int), ¬ ((36 ≤ r ∧ r ≤ 43) ∨ (52 ≤ r ∧ r ≤ 63) ∨ r = 0 ∧ (k = 14 ∨ k = 16) ∨ r = 64 ∨ r = 65 ∨ r = 0 ∧ k = 15) → h1 r k = h r k := fun r k q => zCh_q hF1 r k q
    refine s_116 (G := G) (hc.fr (fun r k q => he1 r k (by omega))).2.1 hc.2.2 (hmp.fr (fun k q => he1 81 k (by omega)) (fun r k q => he1 r k (by omega))) (f := h 70) (fun v v0 v6 => (he1 98 v (by omega)).trans (hf v v0 v6).1.symm) hf.b (fun z0 => absurd z0 (by omega)) (fun _ h2 hF2 hmp2 e36 hl2 => ⟨⟨_, rfl, rfl⟩, ?_⟩)
    have he : ∀ (r : Nat) (k : Int), ¬ (((36 ≤ r ∧ r ≤ 43) ∨ (52 ≤ r ∧ r ≤ 63) ∨ r = 0 ∧ (k = 14 ∨ k = 16) ∨ r = 64 ∨ r = 65 ∨ r = 0 ∧ k = 15) ∨ (86 ≤ r ∧ r ≤ 97) ∨ r = 81 ∧ (k = 12 ∨ k = 14 ∨ k = 15 ∨ k = 16 ∨ k = 27) ∨ (99 ≤ r ∧ r ≤ 101) ∨ r = 81 ∧ 31 ≤ k ∧ k ≤ 36) → h2 r k = h r k := fun r k q => (zMv_q hF2 r k (by omega)).trans (zCh_q hF1 r k (by omega))
    have he2 : ∀ (r : Nat) (k : Int), ¬ ((86 ≤ r ∧ r ≤ 97) ∨ r = 81 ∧ (k = 12 ∨ k = 14 ∨ k = 15 ∨ k = 16 ∨ k = 27) ∨ (99 ≤ r ∧ r ≤ 101) ∨ r = 81 ∧ 31 ≤ k ∧ k ≤ 36) → h2 r k = h1 r k := fun r k q => zMv_q hF2 r k q
    have e15b : h2 0 15 = 1 := (he2 0 15 (by omega)).trans e15
    exact ⟨G, ha.fr (fun r k q => he r k (by omega)), ((he 1 2 (by omega)).trans (hb.trans (he 81 3 (by omega)).symm)), hc.fr (fun r k q => he r k (by omega)), ⟨hd.1.fr (by decide) (fun r k q => he r k (by omega)), hd.2.fr (by decide) (fun r k q => he r k (by omega))⟩, hcp1.fr (fun k q => he2 0 k (by omega)) (fun r k q => he2 r k (by omega)), hmp2, hwc.fr (fun k => he 84 k (by omega)) (fun k => he 85 k (by omega)), hf.fr (fun r k q => he r k (by omega)), ⟨e15b.trans e36.symm, fun _ => ⟨_, hr1.q (fun k => he2 _ _ (by omega)) (fun k => he2 _ _ (by omega)), hl2⟩⟩, hs.fr (fun r k q => he r k (by omega)), ((he 0 13 (by omega)).trans (ht.trans (he 81 45 (by omega)).symm))⟩
