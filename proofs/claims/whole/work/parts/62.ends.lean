/-! The class reads ends, blocks, the tape -/
/-- D is read, and the next block but for its last ; -/
def zIe (h : zM) (D : zD) (c : Nat) (S : Nat → Nat → Int) (m : Nat) (e o w y : Int) : Prop := h 4 7 = (D.1 : Int) + 1 ∧ D.1 < 8 ∧ (∀ p w : Nat, p < D.1 → w < 6 → h (5 + w) (p : Int) = D.2.1 p w) ∧ h 5 (D.1 : Int) = (D.2.2.1 : Int) ∧ h 6 (D.1 : Int) = (c : Int) ∧ h 4 8 = (m : Int) ∧ m = D.2.2.1 + c ∧ m ≤ 24 ∧ (∀ i w : Nat, i < m → w < 5 → h 11 ((i : Int) * 5 + (w : Int)) = S i w) ∧ h 7 (D.1 : Int) = e ∧ h 8 (D.1 : Int) = o ∧ h 9 (D.1 : Int) = w ∧ h 10 (D.1 : Int) = y
theorem zIp.E {h : zM} {D : zD} {c : Nat} {S : Nat → Nat → Int} {m : Nat} (hi : zIp h D c S m) : zIe h D c S m 2 (-4) (-4) (-4) := hi
theorem zIe.T {h h2 : zM} {D : zD} {c : Nat} {S : Nat → Nat → Int} {m : Nat} {e o w y : Int} (hi : zIe h D c S m e o w y) (hF : zF zTf h h2) : zIe h2 D c S m e o w y := by
  obtain ⟨a1, a2, a3, a4, a5, a6, a7, a8, a9, b1, b2, b3, b4⟩ := hi
  have hr : ∀ r k, 1 < r → h2 r k = h r k := by
    intro r k hr
    refine hF _ _ ?_
    unfold zTf
    rw [zbeq_ne (show r ≠ 1 by omega)]
    rfl
  refine ⟨(hr _ _ (by omega)).trans a1, a2, fun p w hp hw => (hr _ _ (by omega)).trans (a3 p w hp hw), (hr _ _ (by omega)).trans a4, (hr _ _ (by omega)).trans a5, (hr _ _ (by omega)).trans a6, a7, a8, fun i w hi hw => (hr _ _ (by omega)).trans (a9 i w hi hw), (hr _ _ (by omega)).trans b1, (hr _ _ (by omega)).trans b2, (hr _ _ (by omega)).trans b3, (hr _ _ (by omega)).trans b4⟩
theorem zIp.cl {h : zM} {D : zD} {c : Nat} {S : Nat → Nat → Int} {m : Nat} (hi : zIp h D c S m) (e o w y : Int) : zIe (zx_st (zx_st (zx_st (zx_st h (4 + 3) (D.1 : Int) e) (4 + 4) (D.1 : Int) o) (4 + 5) (D.1 : Int) w) (4 + 6) (D.1 : Int) y) D c S m e o w y := by
  obtain ⟨a1, a2, a3, a4, a5, a6, a7, a8, a9, b1, b2, b3, b4⟩ := hi
  refine ⟨a1, a2, fun p q hp hq => ?_, a4, a5, a6, a7, a8, a9, ?_, ?_, ?_, ?_⟩
  · rw [zst_ne (by omega), zst_ne (by omega), zst_ne (by omega), zst_ne (by omega)]
    exact a3 p q hp hq
  all_goals simp [zx_st]
theorem zbd_if {α β γ δ : Type} {a : (Int × Nat) ⊕ α} {f : α → (Int × Nat) ⊕ β} {g : α → β → (Int × Nat) ⊕ γ} {q : α → β → γ → (Int × Nat) ⊕ δ} {e : Int × Nat} (h : (zbd a fun x => zbd (f x) fun y => g x y) = .inl e) : (zbd a fun x => zbd (f x) fun y => zbd (g x y) fun z => q x y z) = .inl e := by
  cases a with
  | inl e1 =>
    have h : (Sum.inl e1 : (Int × Nat) ⊕ γ) = .inl e := h
    cases h
    rfl
  | inr x =>
    have h : zbd (f x) (fun y => g x y) = .inl e := h
    show zbd (f x) (fun y => zbd (g x y) fun z => q x y z) = .inl e
    cases hf : f x with
    | inl e1 =>
      rw [hf] at h
      have h : (Sum.inl e1 : (Int × Nat) ⊕ γ) = .inl e := h
      cases h
      rfl
    | inr y =>
      rw [hf] at h
      have h : g x y = .inl e := h
      show zbd (g x y) _ = _
      rw [h]
      rfl
theorem zclG {h h2 : zM} (hF : zF zGf h h2) (p e o w y : Int) : zF zGf h (zx_st (zx_st (zx_st (zx_st h2 (4 + 3) p e) (4 + 4) p o) (4 + 5) p w) (4 + 6) p y) := (((hF.st rfl).st rfl).st rfl).st rfl
set_option maxHeartbeats 4000000 in
set_option maxRecDepth 100000 in
/-- Reader.takesGoto -/
theorem s_178 {h : zM} {n : Nat} {t : Nat → Int} (ht : zTp h n t) {k : zTk} (hk : zTc h k) (hb : zTb n k) {D : zD} {c : Nat} {S : Nat → Nat → Int} {m : Nat} (hi : zIp h D c S m) {Q : zQ} (h1 : ∀ k2, zbn n t k = .inr k2 → ∀ h2, zF zGf h h2 → h2 1 2 = h 1 2 → h2 1 3 = h 1 3 → zTc h2 k2 → zIe h2 D c S m 0 k.2.2.2 (-4) (-4) → Q (some (.inl 1)) h2) (h0 : ∀ e, zbn n t k = .inl e → ∀ h2, zF zGf h h2 → h2 1 2 = e.1 → h2 1 3 = (e.2 : Int) → Q (some (.inl 0)) h2) : zR 178 [.inr (.inr 1)] h Q := by
  have a1 := hi.1
  have a2 := hi.2.1
  have b4 := hb.2.2.2
  refine zx_met0 zk_178 (Or.inr ⟨_, _, rfl, rfl⟩) (Nat.le_of_ble_eq_true rfl) 1000 (fun hok hM => ?_)
  refine s_172 ht hk hb (fun s2 n8 k2 e2 h2 hF2 g22 g32 hk2 => ?_) (fun e z h2 hF2 g29 g39 => ?_)
  all_goals have e47 : h2 4 7 = h 4 7 := hF2 _ _ rfl
  all_goals have hi2 := hi.T hF2
  · refine And.intro (by omega) ?_
    refine s_195e (by unfold zWb; omega) (q := (D.1 : Int)) (by omega) (by show _ ≤ (8 : Int); omega) (by omega) ?_
    constructor
    · intro c1
      refine And.intro (by first | exact Or.inl rfl | exact Or.inr rfl | omega) ?_
      first
      | (exact h1 k2 e2 _ (zclG (zGf_T hF2) _ _ _ _ _) g22 g32 (hk2.A (fun _ => rfl)) (hi2.cl _ _ _ _))
      | (exact h0 e z _ (zclG (zGf_T hF2) _ _ _ _ _) g29 g39)
      | (exfalso; have := b4 s2; omega)
    · intro c1
      refine And.intro (by first | exact Or.inl rfl | exact Or.inr rfl | omega) ?_
      first
      | (exact h1 k2 e2 _ (zclG (zGf_T hF2) _ _ _ _ _) g22 g32 (hk2.A (fun _ => rfl)) (hi2.cl _ _ _ _))
      | (exact h0 e z _ (zclG (zGf_T hF2) _ _ _ _ _) g29 g39)
      | (exfalso; have := b4 s2; omega)
  · refine And.intro (by omega) ?_
    refine s_195e (by unfold zWb; omega) (q := (D.1 : Int)) (by omega) (by show _ ≤ (8 : Int); omega) (by omega) ?_
    refine And.intro (fun _ => ?_) (fun c => absurd (by decide) c)
    refine And.intro (by first | exact Or.inl rfl | exact Or.inr rfl | omega) ?_
    first
    | (exact h1 k2 e2 _ (zclG (zGf_T hF2) _ _ _ _ _) g22 g32 (hk2.A (fun _ => rfl)) (hi2.cl _ _ _ _))
    | (exact h0 e z _ (zclG (zGf_T hF2) _ _ _ _ _) g29 g39)
    | (exfalso; have := b4 s2; omega)
set_option maxHeartbeats 4000000 in
set_option maxRecDepth 100000 in
/-- Reader.takesIf -/
theorem s_179 {h : zM} {n : Nat} {t : Nat → Int} (ht : zTp h n t) {k : zTk} (hk : zTc h k) (hb : zTb n k) {D : zD} {c : Nat} {S : Nat → Nat → Int} {m : Nat} (hi : zIp h D c S m) {Q : zQ} (h1 : ∀ k2 k3 k4, zta n t k (zvh n t k) = .inr k2 → zbn n t k2 = .inr k3 → zbn n t k3 = .inr k4 → ∀ h2, zF zGf h h2 → h2 1 2 = h 1 2 → h2 1 3 = h 1 3 → zTc h2 k4 → zIe h2 D c S m 1 k2.2.2.2 k3.2.2.2 (zvh n t k) → Q (some (.inl 1)) h2) (h0 : ∀ e, (zbd (zta n t k (zvh n t k)) fun k2 => zbd (zbn n t k2) fun k3 => zbn n t k3) = .inl e → ∀ h2, zF zGf h h2 → h2 1 2 = e.1 → h2 1 3 = (e.2 : Int) → Q (some (.inl 0)) h2) : zR 179 [.inr (.inr 1)] h Q := by
  have hby := fun i (hi : i < n) => (ht.2.2 i hi).2
  have a1 := hi.1
  have a2 := hi.2.1
  refine zx_met0 zk_179 (Or.inr ⟨_, _, rfl, rfl⟩) (Nat.le_of_ble_eq_true rfl) 1000 (fun hok hM => ?_)
  refine s_168 ht hk hb ?_
  refine s_171 ht hk hb (fun x2 k2 e2 h2 hF2 g22 g32 hk2 => ?_) (fun e z h9 hF9 g29 g39 => ?_)
  · constructor
    · intro c1
      refine And.intro (by first | exact Or.inl rfl | exact Or.inr rfl | omega) ?_
      first
      | (exfalso; omega)
      | (exact h1 k2 k3 k4 e2 e3 e4 _ (zclG hG4 _ _ _ _ _) ((g24.trans g23).trans g22) ((g34.trans g33).trans g32) (hk4.A (fun _ => rfl)) (hi4.cl _ _ _ _))
      | (exact h0 e z _ (zclG hG4 _ _ _ _ _) g29 g39)
      | (exact h0 e (zbd_l z) _ ((zGf_T hF2).tr (zGf_T hF9)) g29 g39)
      | (exact h0 e (zbd_l z) _ (zGf_T hF9) g29 g39)
      | (exfalso; have := c3 s4; omega)
      | (exfalso; have := c2 s3; omega)
    · intro c1
      have hb2 := zta_b hby hb e2
      have ht2 := ht.fr hF2
      rw [zbd_r e2] at h0
      have c2 := hb2.2.2.2
      refine s_172 ht2 hk2 hb2 (fun s3 n3 k3 e3 h3 hF3 g23 g33 hk3 => ?_) (fun e z h9 hF9 g29 g39 => ?_)
      · constructor
        · intro c2
          refine And.intro (by first | exact Or.inl rfl | exact Or.inr rfl | omega) ?_
          first
          | (exfalso; omega)
          | (exact h1 k2 k3 k4 e2 e3 e4 _ (zclG hG4 _ _ _ _ _) ((g24.trans g23).trans g22) ((g34.trans g33).trans g32) (hk4.A (fun _ => rfl)) (hi4.cl _ _ _ _))
          | (exact h0 e z _ (zclG hG4 _ _ _ _ _) g29 g39)
          | (exact h0 e (zbd_l z) _ ((zGf_T hF2).tr (zGf_T hF9)) g29 g39)
          | (exact h0 e (zbd_l z) _ (zGf_T hF9) g29 g39)
          | (exfalso; have := c3 s4; omega)
          | (exfalso; have := c2 s3; omega)
        · intro c2
          have hb3 : zTb n k3 := by
            have z := e3
            unfold zbn at z
            split at z
            · cases z
            · exact zta_b hby hb2 z
          have ht3 := ht2.fr hF3
          rw [zbd_r e3] at h0
          have c3 := hb3.2.2.2
          refine s_172 ht3 hk3 hb3 (fun s4 n4 k4 e4 h4 hF4 g24 g34 hk4 => ?_) (fun e z h4 hF4 g29 g39 => ?_)
          all_goals have e47 : h4 4 7 = h 4 7 := ((hF4 _ _ rfl).trans (hF3 _ _ rfl)).trans (hF2 _ _ rfl)
          all_goals have hi4 := ((hi.T hF2).T hF3).T hF4
          all_goals have hG4 := ((zGf_T hF2).tr (zGf_T hF3)).tr (zGf_T hF4)
          · refine And.intro (by omega) ?_
            refine s_195e (by unfold zWb; omega) (q := (D.1 : Int)) (by omega) (by show _ ≤ (8 : Int); omega) (by omega) ?_
            constructor
            · intro c3
              refine And.intro (by first | exact Or.inl rfl | exact Or.inr rfl | omega) ?_
              first
              | (exfalso; omega)
              | (exact h1 k2 k3 k4 e2 e3 e4 _ (zclG hG4 _ _ _ _ _) ((g24.trans g23).trans g22) ((g34.trans g33).trans g32) (hk4.A (fun _ => rfl)) (hi4.cl _ _ _ _))
              | (exact h0 e z _ (zclG hG4 _ _ _ _ _) g29 g39)
              | (exact h0 e (zbd_l z) _ ((zGf_T hF2).tr (zGf_T hF9)) g29 g39)
              | (exact h0 e (zbd_l z) _ (zGf_T hF9) g29 g39)
              | (exfalso; have := c3 s4; omega)
              | (exfalso; have := c2 s3; omega)
            · intro c3
              refine And.intro (by first | exact Or.inl rfl | exact Or.inr rfl | omega) ?_
              first
              | (exfalso; omega)
              | (exact h1 k2 k3 k4 e2 e3 e4 _ (zclG hG4 _ _ _ _ _) ((g24.trans g23).trans g22) ((g34.trans g33).trans g32) (hk4.A (fun _ => rfl)) (hi4.cl _ _ _ _))
              | (exact h0 e z _ (zclG hG4 _ _ _ _ _) g29 g39)
              | (exact h0 e (zbd_l z) _ ((zGf_T hF2).tr (zGf_T hF9)) g29 g39)
              | (exact h0 e (zbd_l z) _ (zGf_T hF9) g29 g39)
              | (exfalso; have := c3 s4; omega)
              | (exfalso; have := c2 s3; omega)
          · refine And.intro (by omega) ?_
            refine s_195e (by unfold zWb; omega) (q := (D.1 : Int)) (by omega) (by show _ ≤ (8 : Int); omega) (by omega) ?_
            refine And.intro (fun _ => ?_) (fun c => absurd (by decide) c)
            refine And.intro (by first | exact Or.inl rfl | exact Or.inr rfl | omega) ?_
            first
            | (exfalso; omega)
            | (exact h1 k2 k3 k4 e2 e3 e4 _ (zclG hG4 _ _ _ _ _) ((g24.trans g23).trans g22) ((g34.trans g33).trans g32) (hk4.A (fun _ => rfl)) (hi4.cl _ _ _ _))
            | (exact h0 e z _ (zclG hG4 _ _ _ _ _) g29 g39)
            | (exact h0 e (zbd_l z) _ ((zGf_T hF2).tr (zGf_T hF9)) g29 g39)
            | (exact h0 e (zbd_l z) _ (zGf_T hF9) g29 g39)
            | (exfalso; have := c3 s4; omega)
            | (exfalso; have := c2 s3; omega)
      · refine And.intro (fun _ => ?_) (fun c => absurd (by decide) c)
        refine And.intro (by first | exact Or.inl rfl | exact Or.inr rfl | omega) ?_
        first
        | (exfalso; omega)
        | (exact h1 k2 k3 k4 e2 e3 e4 _ (zclG hG4 _ _ _ _ _) ((g24.trans g23).trans g22) ((g34.trans g33).trans g32) (hk4.A (fun _ => rfl)) (hi4.cl _ _ _ _))
        | (exact h0 e z _ (zclG hG4 _ _ _ _ _) g29 g39)
        | (exact h0 e (zbd_l z) _ ((zGf_T hF2).tr (zGf_T hF9)) g29 g39)
        | (exact h0 e (zbd_l z) _ (zGf_T hF9) g29 g39)
        | (exfalso; have := c3 s4; omega)
        | (exfalso; have := c2 s3; omega)
  · refine And.intro (fun _ => ?_) (fun c => absurd (by decide) c)
    refine And.intro (by first | exact Or.inl rfl | exact Or.inr rfl | omega) ?_
    first
    | (exfalso; omega)
    | (exact h1 k2 k3 k4 e2 e3 e4 _ (zclG hG4 _ _ _ _ _) ((g24.trans g23).trans g22) ((g34.trans g33).trans g32) (hk4.A (fun _ => rfl)) (hi4.cl _ _ _ _))
    | (exact h0 e z _ (zclG hG4 _ _ _ _ _) g29 g39)
    | (exact h0 e (zbd_l z) _ ((zGf_T hF2).tr (zGf_T hF9)) g29 g39)
    | (exact h0 e (zbd_l z) _ (zGf_T hF9) g29 g39)
    | (exfalso; have := c3 s4; omega)
    | (exfalso; have := c2 s3; omega)
set_option maxHeartbeats 4000000 in
set_option maxRecDepth 100000 in
/-- Reader.takesEnd -/
theorem s_177 {h : zM} {n : Nat} {t : Nat → Int} (ht : zTp h n t) {k : zTk} (hk : zTc h k) (hb : zTb n k) {D : zD} {c : Nat} {S : Nat → Nat → Int} {m : Nat} (hi : zIp h D c S m) {Q : zQ} (h1 : ∀ r, zendp n t k = .inr r → ∀ h2, zF zGf h h2 → h2 1 2 = h 1 2 → h2 1 3 = h 1 3 → zTc h2 r.1 → zIe h2 D c S m r.2.1 r.2.2.1 r.2.2.2.1 r.2.2.2.2 → Q (some (.inl 1)) h2) (h0 : ∀ e, zendp n t k = .inl e → ∀ h2, zF zGf h h2 → h2 1 2 = e.1 → h2 1 3 = (e.2 : Int) → Q (some (.inl 0)) h2) : zR 177 [.inr (.inr 1)] h Q := by
  have hby := fun i (hi : i < n) => (ht.2.2 i hi).2
  unfold zendp at h1 h0
  have k5 := hk.1
  refine zx_met0 zk_177 (Or.inr ⟨_, _, rfl, rfl⟩) (Nat.le_of_ble_eq_true rfl) 1000 (fun hok hM => ?_)
  refine s_167 ht hk hb (i := 7) (by omega) (fun w1 => ?_) (fun w1 => ?_)
  all_goals rw [show zwd 7 = [115, 116, 111, 112] from by decide +kernel] at w1
  · refine And.intro (fun c => absurd c (by decide)) (fun _ => ?_)
    refine s_165 ht hb.2.1 hk.2.1 (fun k1 z1 h1m hF1 g21 g31 hk1 => ?_) (fun e z h9 hF9 g29 g39 => ?_)
    · refine And.intro (by first | exact Or.inl rfl | exact Or.inr rfl | omega) ?_
      first
      | (rw [if_pos (zwbb_iff.mpr w1), zbd_r z1] at h1
         exact h1 _ rfl _ (zGf_T hF1) g21 g31 hk1 (hi.T hF1).E)
      | (rw [if_pos (zwbb_iff.mpr w1), zbd_l z] at h0
         exact h0 _ rfl _ (zGf_T hF9) g29 g39)
      | (rw [if_neg (by rw [zwbb_f.mpr w1]; decide), if_pos (zwbb_iff.mpr w2), zbd_r z1, zbd_r e2] at h1
         exact h1 _ rfl _ ((zGf_T hF1).tr hF2) (g22.trans g21) (g32.trans g31) hk2 hi2)
      | (rw [if_neg (by rw [zwbb_f.mpr w1]; decide), if_pos (zwbb_iff.mpr w2), zbd_r z1, zbd_l z] at h0
         exact h0 _ rfl _ ((zGf_T hF1).tr hF9) g29 g39)
      | (rw [if_neg (by rw [zwbb_f.mpr w1]; decide), if_pos (zwbb_iff.mpr w2), zbd_l z] at h0
         exact h0 _ rfl _ (zGf_T hF9) g29 g39)
      | (rw [if_neg (by rw [zwbb_f.mpr w1]; decide), if_neg (by rw [zwbb_f.mpr w2]; decide), if_pos (zwbb_iff.mpr w3), zbd_r z1, zbd_r e2, zbd_r e3, zbd_r e4] at h1
         exact h1 _ rfl _ ((zGf_T hF1).tr hF2) (g22.trans g21) (g32.trans g31) hk2 hi2)
      | (rw [if_neg (by rw [zwbb_f.mpr w1]; decide), if_neg (by rw [zwbb_f.mpr w2]; decide), if_pos (zwbb_iff.mpr w3), zbd_r z1] at h0
         exact h0 e (zbd_if z) _ ((zGf_T hF1).tr hF9) g29 g39)
      | (rw [if_neg (by rw [zwbb_f.mpr w1]; decide), if_neg (by rw [zwbb_f.mpr w2]; decide), if_pos (zwbb_iff.mpr w3), zbd_l z] at h0
         exact h0 _ rfl _ (zGf_T hF9) g29 g39)
      | (rw [if_neg (by rw [zwbb_f.mpr w1]; decide), if_neg (by rw [zwbb_f.mpr w2]; decide), if_neg (by rw [zwbb_f.mpr w3]; decide)] at h0
         exact h0 _ rfl _ ((zF.rf.st rfl).st rfl) (by rw [zst_ne (by decide), zst_eq]) (by rw [zst_eq]; exact k5))
    · refine And.intro (by first | exact Or.inl rfl | exact Or.inr rfl | omega) ?_
      first
      | (rw [if_pos (zwbb_iff.mpr w1), zbd_r z1] at h1
         exact h1 _ rfl _ (zGf_T hF1) g21 g31 hk1 (hi.T hF1).E)
      | (rw [if_pos (zwbb_iff.mpr w1), zbd_l z] at h0
         exact h0 _ rfl _ (zGf_T hF9) g29 g39)
      | (rw [if_neg (by rw [zwbb_f.mpr w1]; decide), if_pos (zwbb_iff.mpr w2), zbd_r z1, zbd_r e2] at h1
         exact h1 _ rfl _ ((zGf_T hF1).tr hF2) (g22.trans g21) (g32.trans g31) hk2 hi2)
      | (rw [if_neg (by rw [zwbb_f.mpr w1]; decide), if_pos (zwbb_iff.mpr w2), zbd_r z1, zbd_l z] at h0
         exact h0 _ rfl _ ((zGf_T hF1).tr hF9) g29 g39)
      | (rw [if_neg (by rw [zwbb_f.mpr w1]; decide), if_pos (zwbb_iff.mpr w2), zbd_l z] at h0
         exact h0 _ rfl _ (zGf_T hF9) g29 g39)
      | (rw [if_neg (by rw [zwbb_f.mpr w1]; decide), if_neg (by rw [zwbb_f.mpr w2]; decide), if_pos (zwbb_iff.mpr w3), zbd_r z1, zbd_r e2, zbd_r e3, zbd_r e4] at h1
         exact h1 _ rfl _ ((zGf_T hF1).tr hF2) (g22.trans g21) (g32.trans g31) hk2 hi2)
      | (rw [if_neg (by rw [zwbb_f.mpr w1]; decide), if_neg (by rw [zwbb_f.mpr w2]; decide), if_pos (zwbb_iff.mpr w3), zbd_r z1] at h0
         exact h0 e (zbd_if z) _ ((zGf_T hF1).tr hF9) g29 g39)
      | (rw [if_neg (by rw [zwbb_f.mpr w1]; decide), if_neg (by rw [zwbb_f.mpr w2]; decide), if_pos (zwbb_iff.mpr w3), zbd_l z] at h0
         exact h0 _ rfl _ (zGf_T hF9) g29 g39)
      | (rw [if_neg (by rw [zwbb_f.mpr w1]; decide), if_neg (by rw [zwbb_f.mpr w2]; decide), if_neg (by rw [zwbb_f.mpr w3]; decide)] at h0
         exact h0 _ rfl _ ((zF.rf.st rfl).st rfl) (by rw [zst_ne (by decide), zst_eq]) (by rw [zst_eq]; exact k5))
  · refine And.intro (fun _ => ?_) (fun c => absurd (by decide) c)
    refine s_167 ht hk hb (i := 8) (by omega) (fun w2 => ?_) (fun w2 => ?_)
    all_goals rw [show zwd 8 = [103, 111, 116, 111] from by decide +kernel] at w2
    · refine And.intro (fun c => absurd c (by decide)) (fun _ => ?_)
      refine s_165 ht hb.2.1 hk.2.1 (fun k1 z1 h1m hF1 g21 g31 hk1 => ?_) (fun e z h9 hF9 g29 g39 => ?_)
      · refine And.intro (fun c => absurd c (by decide)) (fun _ => ?_)
        refine s_178 (ht.fr hF1) hk1 (ztk_b hby hb.2.1 z1) (hi.T hF1) (fun k2 e2 h2 hF2 g22 g32 hk2 hi2 => ?_) (fun e z h9 hF9 g29 g39 => ?_)
        · refine And.intro (fun c => absurd c (by decide)) (fun _ => ?_)
          refine And.intro (by first | exact Or.inl rfl | exact Or.inr rfl | omega) ?_
          first
          | (rw [if_pos (zwbb_iff.mpr w1), zbd_r z1] at h1
             exact h1 _ rfl _ (zGf_T hF1) g21 g31 hk1 (hi.T hF1).E)
          | (rw [if_pos (zwbb_iff.mpr w1), zbd_l z] at h0
             exact h0 _ rfl _ (zGf_T hF9) g29 g39)
          | (rw [if_neg (by rw [zwbb_f.mpr w1]; decide), if_pos (zwbb_iff.mpr w2), zbd_r z1, zbd_r e2] at h1
             exact h1 _ rfl _ ((zGf_T hF1).tr hF2) (g22.trans g21) (g32.trans g31) hk2 hi2)
          | (rw [if_neg (by rw [zwbb_f.mpr w1]; decide), if_pos (zwbb_iff.mpr w2), zbd_r z1, zbd_l z] at h0
             exact h0 _ rfl _ ((zGf_T hF1).tr hF9) g29 g39)
          | (rw [if_neg (by rw [zwbb_f.mpr w1]; decide), if_pos (zwbb_iff.mpr w2), zbd_l z] at h0
             exact h0 _ rfl _ (zGf_T hF9) g29 g39)
          | (rw [if_neg (by rw [zwbb_f.mpr w1]; decide), if_neg (by rw [zwbb_f.mpr w2]; decide), if_pos (zwbb_iff.mpr w3), zbd_r z1, zbd_r e2, zbd_r e3, zbd_r e4] at h1
             exact h1 _ rfl _ ((zGf_T hF1).tr hF2) (g22.trans g21) (g32.trans g31) hk2 hi2)
          | (rw [if_neg (by rw [zwbb_f.mpr w1]; decide), if_neg (by rw [zwbb_f.mpr w2]; decide), if_pos (zwbb_iff.mpr w3), zbd_r z1] at h0
             exact h0 e (zbd_if z) _ ((zGf_T hF1).tr hF9) g29 g39)
          | (rw [if_neg (by rw [zwbb_f.mpr w1]; decide), if_neg (by rw [zwbb_f.mpr w2]; decide), if_pos (zwbb_iff.mpr w3), zbd_l z] at h0
             exact h0 _ rfl _ (zGf_T hF9) g29 g39)
          | (rw [if_neg (by rw [zwbb_f.mpr w1]; decide), if_neg (by rw [zwbb_f.mpr w2]; decide), if_neg (by rw [zwbb_f.mpr w3]; decide)] at h0
             exact h0 _ rfl _ ((zF.rf.st rfl).st rfl) (by rw [zst_ne (by decide), zst_eq]) (by rw [zst_eq]; exact k5))
        · refine And.intro (fun _ => ?_) (fun c => absurd (by decide) c)
          refine And.intro (by first | exact Or.inl rfl | exact Or.inr rfl | omega) ?_
          first
          | (rw [if_pos (zwbb_iff.mpr w1), zbd_r z1] at h1
             exact h1 _ rfl _ (zGf_T hF1) g21 g31 hk1 (hi.T hF1).E)
          | (rw [if_pos (zwbb_iff.mpr w1), zbd_l z] at h0
             exact h0 _ rfl _ (zGf_T hF9) g29 g39)
          | (rw [if_neg (by rw [zwbb_f.mpr w1]; decide), if_pos (zwbb_iff.mpr w2), zbd_r z1, zbd_r e2] at h1
             exact h1 _ rfl _ ((zGf_T hF1).tr hF2) (g22.trans g21) (g32.trans g31) hk2 hi2)
          | (rw [if_neg (by rw [zwbb_f.mpr w1]; decide), if_pos (zwbb_iff.mpr w2), zbd_r z1, zbd_l z] at h0
             exact h0 _ rfl _ ((zGf_T hF1).tr hF9) g29 g39)
          | (rw [if_neg (by rw [zwbb_f.mpr w1]; decide), if_pos (zwbb_iff.mpr w2), zbd_l z] at h0
             exact h0 _ rfl _ (zGf_T hF9) g29 g39)
          | (rw [if_neg (by rw [zwbb_f.mpr w1]; decide), if_neg (by rw [zwbb_f.mpr w2]; decide), if_pos (zwbb_iff.mpr w3), zbd_r z1, zbd_r e2, zbd_r e3, zbd_r e4] at h1
             exact h1 _ rfl _ ((zGf_T hF1).tr hF2) (g22.trans g21) (g32.trans g31) hk2 hi2)
          | (rw [if_neg (by rw [zwbb_f.mpr w1]; decide), if_neg (by rw [zwbb_f.mpr w2]; decide), if_pos (zwbb_iff.mpr w3), zbd_r z1] at h0
             exact h0 e (zbd_if z) _ ((zGf_T hF1).tr hF9) g29 g39)
          | (rw [if_neg (by rw [zwbb_f.mpr w1]; decide), if_neg (by rw [zwbb_f.mpr w2]; decide), if_pos (zwbb_iff.mpr w3), zbd_l z] at h0
             exact h0 _ rfl _ (zGf_T hF9) g29 g39)
          | (rw [if_neg (by rw [zwbb_f.mpr w1]; decide), if_neg (by rw [zwbb_f.mpr w2]; decide), if_neg (by rw [zwbb_f.mpr w3]; decide)] at h0
             exact h0 _ rfl _ ((zF.rf.st rfl).st rfl) (by rw [zst_ne (by decide), zst_eq]) (by rw [zst_eq]; exact k5))
      · refine And.intro (fun _ => ?_) (fun c => absurd (by decide) c)
        refine And.intro (by first | exact Or.inl rfl | exact Or.inr rfl | omega) ?_
        first
        | (rw [if_pos (zwbb_iff.mpr w1), zbd_r z1] at h1
           exact h1 _ rfl _ (zGf_T hF1) g21 g31 hk1 (hi.T hF1).E)
        | (rw [if_pos (zwbb_iff.mpr w1), zbd_l z] at h0
           exact h0 _ rfl _ (zGf_T hF9) g29 g39)
        | (rw [if_neg (by rw [zwbb_f.mpr w1]; decide), if_pos (zwbb_iff.mpr w2), zbd_r z1, zbd_r e2] at h1
           exact h1 _ rfl _ ((zGf_T hF1).tr hF2) (g22.trans g21) (g32.trans g31) hk2 hi2)
        | (rw [if_neg (by rw [zwbb_f.mpr w1]; decide), if_pos (zwbb_iff.mpr w2), zbd_r z1, zbd_l z] at h0
           exact h0 _ rfl _ ((zGf_T hF1).tr hF9) g29 g39)
        | (rw [if_neg (by rw [zwbb_f.mpr w1]; decide), if_pos (zwbb_iff.mpr w2), zbd_l z] at h0
           exact h0 _ rfl _ (zGf_T hF9) g29 g39)
        | (rw [if_neg (by rw [zwbb_f.mpr w1]; decide), if_neg (by rw [zwbb_f.mpr w2]; decide), if_pos (zwbb_iff.mpr w3), zbd_r z1, zbd_r e2, zbd_r e3, zbd_r e4] at h1
           exact h1 _ rfl _ ((zGf_T hF1).tr hF2) (g22.trans g21) (g32.trans g31) hk2 hi2)
        | (rw [if_neg (by rw [zwbb_f.mpr w1]; decide), if_neg (by rw [zwbb_f.mpr w2]; decide), if_pos (zwbb_iff.mpr w3), zbd_r z1] at h0
           exact h0 e (zbd_if z) _ ((zGf_T hF1).tr hF9) g29 g39)
        | (rw [if_neg (by rw [zwbb_f.mpr w1]; decide), if_neg (by rw [zwbb_f.mpr w2]; decide), if_pos (zwbb_iff.mpr w3), zbd_l z] at h0
           exact h0 _ rfl _ (zGf_T hF9) g29 g39)
        | (rw [if_neg (by rw [zwbb_f.mpr w1]; decide), if_neg (by rw [zwbb_f.mpr w2]; decide), if_neg (by rw [zwbb_f.mpr w3]; decide)] at h0
           exact h0 _ rfl _ ((zF.rf.st rfl).st rfl) (by rw [zst_ne (by decide), zst_eq]) (by rw [zst_eq]; exact k5))
    · refine And.intro (fun _ => ?_) (fun c => absurd (by decide) c)
      refine s_167 ht hk hb (i := 9) (by omega) (fun w3 => ?_) (fun w3 => ?_)
      all_goals rw [show zwd 9 = [105, 102] from by decide +kernel] at w3
      · refine And.intro (fun c => absurd c (by decide)) (fun _ => ?_)
        refine s_165 ht hb.2.1 hk.2.1 (fun k1 z1 h1m hF1 g21 g31 hk1 => ?_) (fun e z h9 hF9 g29 g39 => ?_)
        · refine And.intro (fun c => absurd c (by decide)) (fun _ => ?_)
          refine s_179 (ht.fr hF1) hk1 (ztk_b hby hb.2.1 z1) (hi.T hF1) (fun k2 k3 k4 e2 e3 e4 h2 hF2 g22 g32 hk2 hi2 => ?_) (fun e z h9 hF9 g29 g39 => ?_)
          · refine And.intro (fun c => absurd c (by decide)) (fun _ => ?_)
            refine And.intro (by first | exact Or.inl rfl | exact Or.inr rfl | omega) ?_
            first
            | (rw [if_pos (zwbb_iff.mpr w1), zbd_r z1] at h1
               exact h1 _ rfl _ (zGf_T hF1) g21 g31 hk1 (hi.T hF1).E)
            | (rw [if_pos (zwbb_iff.mpr w1), zbd_l z] at h0
               exact h0 _ rfl _ (zGf_T hF9) g29 g39)
            | (rw [if_neg (by rw [zwbb_f.mpr w1]; decide), if_pos (zwbb_iff.mpr w2), zbd_r z1, zbd_r e2] at h1
               exact h1 _ rfl _ ((zGf_T hF1).tr hF2) (g22.trans g21) (g32.trans g31) hk2 hi2)
            | (rw [if_neg (by rw [zwbb_f.mpr w1]; decide), if_pos (zwbb_iff.mpr w2), zbd_r z1, zbd_l z] at h0
               exact h0 _ rfl _ ((zGf_T hF1).tr hF9) g29 g39)
            | (rw [if_neg (by rw [zwbb_f.mpr w1]; decide), if_pos (zwbb_iff.mpr w2), zbd_l z] at h0
               exact h0 _ rfl _ (zGf_T hF9) g29 g39)
            | (rw [if_neg (by rw [zwbb_f.mpr w1]; decide), if_neg (by rw [zwbb_f.mpr w2]; decide), if_pos (zwbb_iff.mpr w3), zbd_r z1, zbd_r e2, zbd_r e3, zbd_r e4] at h1
               exact h1 _ rfl _ ((zGf_T hF1).tr hF2) (g22.trans g21) (g32.trans g31) hk2 hi2)
            | (rw [if_neg (by rw [zwbb_f.mpr w1]; decide), if_neg (by rw [zwbb_f.mpr w2]; decide), if_pos (zwbb_iff.mpr w3), zbd_r z1] at h0
               exact h0 e (zbd_if z) _ ((zGf_T hF1).tr hF9) g29 g39)
            | (rw [if_neg (by rw [zwbb_f.mpr w1]; decide), if_neg (by rw [zwbb_f.mpr w2]; decide), if_pos (zwbb_iff.mpr w3), zbd_l z] at h0
               exact h0 _ rfl _ (zGf_T hF9) g29 g39)
            | (rw [if_neg (by rw [zwbb_f.mpr w1]; decide), if_neg (by rw [zwbb_f.mpr w2]; decide), if_neg (by rw [zwbb_f.mpr w3]; decide)] at h0
               exact h0 _ rfl _ ((zF.rf.st rfl).st rfl) (by rw [zst_ne (by decide), zst_eq]) (by rw [zst_eq]; exact k5))
          · refine And.intro (fun _ => ?_) (fun c => absurd (by decide) c)
            refine And.intro (by first | exact Or.inl rfl | exact Or.inr rfl | omega) ?_
            first
            | (rw [if_pos (zwbb_iff.mpr w1), zbd_r z1] at h1
               exact h1 _ rfl _ (zGf_T hF1) g21 g31 hk1 (hi.T hF1).E)
            | (rw [if_pos (zwbb_iff.mpr w1), zbd_l z] at h0
               exact h0 _ rfl _ (zGf_T hF9) g29 g39)
            | (rw [if_neg (by rw [zwbb_f.mpr w1]; decide), if_pos (zwbb_iff.mpr w2), zbd_r z1, zbd_r e2] at h1
               exact h1 _ rfl _ ((zGf_T hF1).tr hF2) (g22.trans g21) (g32.trans g31) hk2 hi2)
            | (rw [if_neg (by rw [zwbb_f.mpr w1]; decide), if_pos (zwbb_iff.mpr w2), zbd_r z1, zbd_l z] at h0
               exact h0 _ rfl _ ((zGf_T hF1).tr hF9) g29 g39)
            | (rw [if_neg (by rw [zwbb_f.mpr w1]; decide), if_pos (zwbb_iff.mpr w2), zbd_l z] at h0
               exact h0 _ rfl _ (zGf_T hF9) g29 g39)
            | (rw [if_neg (by rw [zwbb_f.mpr w1]; decide), if_neg (by rw [zwbb_f.mpr w2]; decide), if_pos (zwbb_iff.mpr w3), zbd_r z1, zbd_r e2, zbd_r e3, zbd_r e4] at h1
               exact h1 _ rfl _ ((zGf_T hF1).tr hF2) (g22.trans g21) (g32.trans g31) hk2 hi2)
            | (rw [if_neg (by rw [zwbb_f.mpr w1]; decide), if_neg (by rw [zwbb_f.mpr w2]; decide), if_pos (zwbb_iff.mpr w3), zbd_r z1] at h0
               exact h0 e (zbd_if z) _ ((zGf_T hF1).tr hF9) g29 g39)
            | (rw [if_neg (by rw [zwbb_f.mpr w1]; decide), if_neg (by rw [zwbb_f.mpr w2]; decide), if_pos (zwbb_iff.mpr w3), zbd_l z] at h0
               exact h0 _ rfl _ (zGf_T hF9) g29 g39)
            | (rw [if_neg (by rw [zwbb_f.mpr w1]; decide), if_neg (by rw [zwbb_f.mpr w2]; decide), if_neg (by rw [zwbb_f.mpr w3]; decide)] at h0
               exact h0 _ rfl _ ((zF.rf.st rfl).st rfl) (by rw [zst_ne (by decide), zst_eq]) (by rw [zst_eq]; exact k5))
        · refine And.intro (fun _ => ?_) (fun c => absurd (by decide) c)
          refine And.intro (by first | exact Or.inl rfl | exact Or.inr rfl | omega) ?_
          first
          | (rw [if_pos (zwbb_iff.mpr w1), zbd_r z1] at h1
             exact h1 _ rfl _ (zGf_T hF1) g21 g31 hk1 (hi.T hF1).E)
          | (rw [if_pos (zwbb_iff.mpr w1), zbd_l z] at h0
             exact h0 _ rfl _ (zGf_T hF9) g29 g39)
          | (rw [if_neg (by rw [zwbb_f.mpr w1]; decide), if_pos (zwbb_iff.mpr w2), zbd_r z1, zbd_r e2] at h1
             exact h1 _ rfl _ ((zGf_T hF1).tr hF2) (g22.trans g21) (g32.trans g31) hk2 hi2)
          | (rw [if_neg (by rw [zwbb_f.mpr w1]; decide), if_pos (zwbb_iff.mpr w2), zbd_r z1, zbd_l z] at h0
             exact h0 _ rfl _ ((zGf_T hF1).tr hF9) g29 g39)
          | (rw [if_neg (by rw [zwbb_f.mpr w1]; decide), if_pos (zwbb_iff.mpr w2), zbd_l z] at h0
             exact h0 _ rfl _ (zGf_T hF9) g29 g39)
          | (rw [if_neg (by rw [zwbb_f.mpr w1]; decide), if_neg (by rw [zwbb_f.mpr w2]; decide), if_pos (zwbb_iff.mpr w3), zbd_r z1, zbd_r e2, zbd_r e3, zbd_r e4] at h1
             exact h1 _ rfl _ ((zGf_T hF1).tr hF2) (g22.trans g21) (g32.trans g31) hk2 hi2)
          | (rw [if_neg (by rw [zwbb_f.mpr w1]; decide), if_neg (by rw [zwbb_f.mpr w2]; decide), if_pos (zwbb_iff.mpr w3), zbd_r z1] at h0
             exact h0 e (zbd_if z) _ ((zGf_T hF1).tr hF9) g29 g39)
          | (rw [if_neg (by rw [zwbb_f.mpr w1]; decide), if_neg (by rw [zwbb_f.mpr w2]; decide), if_pos (zwbb_iff.mpr w3), zbd_l z] at h0
             exact h0 _ rfl _ (zGf_T hF9) g29 g39)
          | (rw [if_neg (by rw [zwbb_f.mpr w1]; decide), if_neg (by rw [zwbb_f.mpr w2]; decide), if_neg (by rw [zwbb_f.mpr w3]; decide)] at h0
             exact h0 _ rfl _ ((zF.rf.st rfl).st rfl) (by rw [zst_ne (by decide), zst_eq]) (by rw [zst_eq]; exact k5))
      · refine And.intro (fun _ => ?_) (fun c => absurd (by decide) c)
        refine s_164 ?_
        refine And.intro (by first | exact Or.inl rfl | exact Or.inr rfl | omega) ?_
        first
        | (rw [if_pos (zwbb_iff.mpr w1), zbd_r z1] at h1
           exact h1 _ rfl _ (zGf_T hF1) g21 g31 hk1 (hi.T hF1).E)
        | (rw [if_pos (zwbb_iff.mpr w1), zbd_l z] at h0
           exact h0 _ rfl _ (zGf_T hF9) g29 g39)
        | (rw [if_neg (by rw [zwbb_f.mpr w1]; decide), if_pos (zwbb_iff.mpr w2), zbd_r z1, zbd_r e2] at h1
           exact h1 _ rfl _ ((zGf_T hF1).tr hF2) (g22.trans g21) (g32.trans g31) hk2 hi2)
        | (rw [if_neg (by rw [zwbb_f.mpr w1]; decide), if_pos (zwbb_iff.mpr w2), zbd_r z1, zbd_l z] at h0
           exact h0 _ rfl _ ((zGf_T hF1).tr hF9) g29 g39)
        | (rw [if_neg (by rw [zwbb_f.mpr w1]; decide), if_pos (zwbb_iff.mpr w2), zbd_l z] at h0
           exact h0 _ rfl _ (zGf_T hF9) g29 g39)
        | (rw [if_neg (by rw [zwbb_f.mpr w1]; decide), if_neg (by rw [zwbb_f.mpr w2]; decide), if_pos (zwbb_iff.mpr w3), zbd_r z1, zbd_r e2, zbd_r e3, zbd_r e4] at h1
           exact h1 _ rfl _ ((zGf_T hF1).tr hF2) (g22.trans g21) (g32.trans g31) hk2 hi2)
        | (rw [if_neg (by rw [zwbb_f.mpr w1]; decide), if_neg (by rw [zwbb_f.mpr w2]; decide), if_pos (zwbb_iff.mpr w3), zbd_r z1] at h0
           exact h0 e (zbd_if z) _ ((zGf_T hF1).tr hF9) g29 g39)
        | (rw [if_neg (by rw [zwbb_f.mpr w1]; decide), if_neg (by rw [zwbb_f.mpr w2]; decide), if_pos (zwbb_iff.mpr w3), zbd_l z] at h0
           exact h0 _ rfl _ (zGf_T hF9) g29 g39)
        | (rw [if_neg (by rw [zwbb_f.mpr w1]; decide), if_neg (by rw [zwbb_f.mpr w2]; decide), if_neg (by rw [zwbb_f.mpr w3]; decide)] at h0
           exact h0 _ rfl _ ((zF.rf.st rfl).st rfl) (by rw [zst_ne (by decide), zst_eq]) (by rw [zst_eq]; exact k5))
