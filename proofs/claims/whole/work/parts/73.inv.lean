/-! The invariant, part by part -/
def zIa (h : zM) : Prop := ∃ (n : Nat) (t : Nat → Int), zTp h n t ∧ zTq h n t
def zIb (h : zM) : Prop := h 1 2 = h 81 3
def zIc (h : zM) (G : zG) : Prop := zPc h 12 44 G ∧ zPm h 0 G ∧ zWf G
def zId (h : zM) (k : Nat) : Prop := h 51 (k : Int) = h 103 (k : Int) ∧ (¬ h 51 (k : Int) = 0 → ∃ G, zPc h (20 + 8 * k) (46 + 2 * k) G ∧ zPm h (177 + 177 * (k : Int)) G ∧ zWf G)
def zIf (h : zM) : Prop := ∀ v, 0 ≤ v → v < 6 → h 70 v = h 98 v ∧ 0 ≤ h 70 v ∧ h 70 v ≤ 99
def zIr (h : zM) : Prop := h 0 15 = h 81 36 ∧ (¬ h 0 15 = 0 → ∃ r, zRd h 64 r ∧ zMl h r)
def zIs (h : zM) : Prop := ∀ k, 0 ≤ k → k < 4 → h (zsb k) 1 = h 104 k ∧ h (zsb k) 2 = h 105 k ∧ (0 ≤ h 105 k ∧ h 105 k ≤ 40) ∧ ∀ i, 0 ≤ i → i < 40 → h (zsb k + 1) i = h 106 (40 * k + i)
def zIt (h : zM) : Prop := h 0 13 = h 81 45
def zInv (h : zM) : Prop := ∃ G, zIa h ∧ zIb h ∧ zIc h G ∧ (zId h 0 ∧ zId h 1) ∧ zCp h G ∧ zMp h G ∧ zWc h ∧ zIf h ∧ zIr h ∧ zIs h ∧ zIt h
theorem zIa.fr {h h2 : zM} (hi : zIa h) (e : ∀ r k, r = 2 ∧ k = 1 ∨ r = 3 ∨ r = 83 ∨ r = 81 ∧ k = 2 → h2 r k = h r k) : zIa h2 := by
  obtain ⟨n, t, a, b⟩ := hi
  exact ⟨n, t, ⟨(e _ _ (by omega)).trans a.1, a.2.1, fun i hi => ⟨(e _ _ (by omega)).trans (a.2.2 i hi).1, (a.2.2 i hi).2⟩⟩, ⟨(e _ _ (by omega)).trans b.1, b.2.1, fun i hi => ⟨(e _ _ (by omega)).trans (b.2.2 i hi).1, (b.2.2 i hi).2⟩⟩⟩
theorem zIc.fr {h h2 : zM} {G : zG} (hi : zIc h G) (e : ∀ r k, (12 ≤ r ∧ r ≤ 19) ∨ r = 44 ∨ r = 45 ∨ r = 82 ∧ 0 ≤ k ∧ k < 177 → h2 r k = h r k) : zIc h2 G := by
  obtain ⟨a, ⟨b1, b2, b3, b4, b5, b6⟩, c⟩ := hi
  have w1 := c.1
  have w2 := c.2.1
  refine ⟨a.fr (fun w k hw => e _ _ (by omega)) (fun k => e _ _ (by omega)) (fun k => e _ _ (by omega)), ⟨(e _ _ (by omega)).trans b1, (e _ _ (by omega)).trans b2, fun p w hp hw => (e _ _ (by omega)).trans (b3 p w hp hw), fun i w hi hw => (e _ _ (by omega)).trans (b4 i w hi hw), fun v v0 v6 => (e _ _ (by omega)).trans (b5 v v0 v6), (e _ _ (by omega)).trans b6⟩, c⟩
theorem zId.fr {h h2 : zM} {k : Nat} (hk : k < 2) (hi : zId h k) (e : ∀ r j, (20 ≤ r ∧ r ≤ 35) ∨ (46 ≤ r ∧ r ≤ 49) ∨ r = 51 ∨ r = 103 ∨ r = 82 ∧ 177 ≤ j ∧ j < 531 → h2 r j = h r j) : zId h2 k := by
  obtain ⟨a, b⟩ := hi
  have e51 := e 51 (k : Int) (by omega)
  refine ⟨e51.trans (a.trans (e 103 (k : Int) (by omega)).symm), fun q => ?_⟩
  rw [e51] at q
  obtain ⟨G, a, ⟨b1, b2, b3, b4, b5, b6⟩, c⟩ := b q
  have w1 := c.1
  have w2 := c.2.1
  exact ⟨G, a.fr (fun w j hw => e _ _ (by omega)) (fun j => e _ _ (by omega)) (fun j => e _ _ (by omega)), ⟨(e _ _ (by omega)).trans b1, (e _ _ (by omega)).trans b2, fun p w hp hw => (e _ _ (by omega)).trans (b3 p w hp hw), fun i w hi hw => (e _ _ (by omega)).trans (b4 i w hi hw), fun v v0 v6 => (e _ _ (by omega)).trans (b5 v v0 v6), (e _ _ (by omega)).trans b6⟩, c⟩
theorem zCp.fr {h h2 : zM} {G : zG} (hc : zCp h G) (e0 : ∀ k, k = 14 ∨ k = 16 → h2 0 k = h 0 k) (e : ∀ r k, (36 ≤ r ∧ r ≤ 43) ∨ (52 ≤ r ∧ r ≤ 57) ∨ r = 60 ∨ r = 61 → h2 r k = h r k) : zCp h2 G := by
  have e16 := e0 16 (by omega)
  obtain ⟨a, b⟩ := hc
  rw [← e16] at a b
  exact ⟨a, fun q => (b q).fr2 e0 e⟩
theorem zMp.fr {h h2 : zM} {G : zG} (hc : zMp h G) (e1 : ∀ k, k = 12 ∨ k = 14 ∨ k = 15 ∨ k = 16 → h2 81 k = h 81 k) (e : ∀ r k, 86 ≤ r ∧ r ≤ 94 → h2 r k = h r k) : zMp h2 G := by
  have e14 := e1 14 (by omega)
  obtain ⟨a, b⟩ := hc
  rw [← e14] at a b
  exact ⟨a, fun q => (b q).fr (fun k hk => e1 k (by omega)) e⟩
theorem zIf.fr {h h2 : zM} (hi : zIf h) (e : ∀ r k, r = 70 ∨ r = 98 → h2 r k = h r k) : zIf h2 := by
  intro v v0 v6
  rw [e 70 v (by omega), e 98 v (by omega)]
  exact hi v v0 v6
theorem zIr.fr {h h2 : zM} (hi : zIr h) (e : ∀ r k, r = 0 ∧ k = 15 ∨ r = 81 ∧ k = 36 ∨ r = 64 ∨ r = 65 ∨ r = 100 → h2 r k = h r k) : zIr h2 := by
  obtain ⟨a, b⟩ := hi
  have e15 := e 0 15 (by omega)
  refine ⟨e15.trans (a.trans (e 81 36 (by omega)).symm), fun q => ?_⟩
  rw [e15] at q
  obtain ⟨r, ⟨⟨c1, c2, c3, c4⟩, c5, c6⟩, d1, d2, d3, d4, d5⟩ := b q
  exact ⟨r, ⟨⟨(e _ _ (by omega)).trans c1, (e _ _ (by omega)).trans c2, (e _ _ (by omega)).trans c3, fun v v0 v6 => (e _ _ (by omega)).trans (c4 v v0 v6)⟩, (e _ _ (by omega)).trans c5, (e _ _ (by omega)).trans c6⟩, (e _ _ (by omega)).trans d1, (e _ _ (by omega)).trans d2, (e _ _ (by omega)).trans d3, (e _ _ (by omega)).trans d4, fun v v0 v6 => (e _ _ (by omega)).trans (d5 v v0 v6)⟩
theorem zIs.fr {h h2 : zM} (hi : zIs h) (e : ∀ r k, (73 ≤ r ∧ r ≤ 80) ∨ (104 ≤ r ∧ r ≤ 106) → h2 r k = h r k) : zIs h2 := by
  intro k k0 k4
  obtain ⟨a, b, c, d⟩ := hi k k0 k4
  have z : 73 ≤ zsb k ∧ zsb k ≤ 79 := by
    unfold zsb
    omega
  have e5 := e 105 k (by omega)
  refine ⟨(e _ _ (by omega)).trans (a.trans (e _ _ (by omega)).symm), (e _ _ (by omega)).trans (b.trans e5.symm), ?_, fun i i0 i4 => (e _ _ (by omega)).trans ((d i i0 i4).trans (e _ _ (by omega)).symm)⟩
  rw [e5]
  exact c
