/-! The class reads steps and ends -/
/-- D is read, and of the next block c steps, m in all -/
def zIp (h : zM) (D : zD) (c : Nat) (S : Nat → Nat → Int) (m : Nat) : Prop := h 4 7 = (D.1 : Int) + 1 ∧ D.1 < 8 ∧ (∀ p w : Nat, p < D.1 → w < 6 → h (5 + w) (p : Int) = D.2.1 p w) ∧ h 5 (D.1 : Int) = (D.2.2.1 : Int) ∧ h 6 (D.1 : Int) = (c : Int) ∧ h 4 8 = (m : Int) ∧ m = D.2.2.1 + c ∧ m ≤ 24 ∧ (∀ i w : Nat, i < m → w < 5 → h 11 ((i : Int) * 5 + (w : Int)) = S i w) ∧ h 7 (D.1 : Int) = 2 ∧ h 8 (D.1 : Int) = -4 ∧ h 9 (D.1 : Int) = -4 ∧ h 10 (D.1 : Int) = -4
theorem zIp.T {h h2 : zM} {D : zD} {c : Nat} {S : Nat → Nat → Int} {m : Nat} (hi : zIp h D c S m) (hF : zF zTf h h2) : zIp h2 D c S m := by
  obtain ⟨a1, a2, a3, a4, a5, a6, a7, a8, a9, b1, b2, b3, b4⟩ := hi
  have hr : ∀ r k, 1 < r → h2 r k = h r k := by
    intro r k hr
    refine hF _ _ ?_
    unfold zTf
    rw [zbeq_ne (show r ≠ 1 by omega)]
    rfl
  refine ⟨(hr _ _ (by omega)).trans a1, a2, fun p w hp hw => (hr _ _ (by omega)).trans (a3 p w hp hw), (hr _ _ (by omega)).trans a4, (hr _ _ (by omega)).trans a5, (hr _ _ (by omega)).trans a6, a7, a8, fun i w hi hw => (hr _ _ (by omega)).trans (a9 i w hi hw), (hr _ _ (by omega)).trans b1, (hr _ _ (by omega)).trans b2, (hr _ _ (by omega)).trans b3, (hr _ _ (by omega)).trans b4⟩
def zGf : Nat → Int → Bool := fun r k => zTf r k || (Nat.ble 4 r && Nat.ble r 11)
theorem zGf_T {h h2 : zM} (hF : zF zTf h h2) : zF zGf h h2 := hF.mono (fun r j hf => (Bool.or_eq_false_iff.mp hf).1)
theorem zGf_in {r : Nat} {k : Int} (h1 : 4 ≤ r) (h2 : r ≤ 11) : zGf r k = true := by
  unfold zGf
  rw [Nat.ble_eq.mpr h1, Nat.ble_eq.mpr h2]
  simp
theorem zGf_A {h h2 : zM} {p s : Int} (hF : zF (zAf 4 p s) h h2) : zF zGf h h2 := hF.mono (fun r j hf => by
  by_cases q : 4 ≤ r ∧ r ≤ 11
  · rw [zGf_in q.1 q.2] at hf
    cases hf
  · unfold zAf
    rw [zbeq_ne (show r ≠ 4 by omega), zbeq_ne (show r ≠ 4 + 2 by omega), zbeq_ne (show r ≠ 4 + 7 by omega)]
    rfl)
theorem zTp.G {h h2 : zM} {n : Nat} {t : Nat → Int} (ht : zTp h n t) (hF : zF zGf h h2) : zTp h2 n t := ⟨(hF _ _ rfl).trans ht.1, ht.2.1, fun i hi => ⟨(hF _ _ rfl).trans (ht.2.2 i hi).1, (ht.2.2 i hi).2⟩⟩
theorem zTc.A {h h2 : zM} {k : zTk} (hk : zTc h k) (e : ∀ j, h2 1 j = h 1 j) : zTc h2 k := ⟨(e _).trans hk.1, (e _).trans hk.2.1, (e _).trans hk.2.2.1, fun q => (e _).trans (hk.2.2.2 q)⟩
theorem s_194p {h : zM} {D : zD} {c : Nat} {S : Nat → Nat → Int} {m : Nat} (hi : zIp h D c S m) (hm : m < 24) {x : Int} (hx : x = (D.1 : Int)) {t : Nat → Int} {x0 x1 x2 x3 x4 : Int} (e0 : x0 = t 0) (e1 : x1 = t 1) (e2 : x2 = t 2) (e3 : x3 = t 3) (e4 : x4 = t 4) {Q : zQ} (hq : ∀ h2, zF zGf h h2 → (∀ j, h2 1 j = h 1 j) → zIp h2 D (c + 1) (fun i => if i = m then t else S i) (m + 1) → Q (some (.inl 1)) h2) : zR 194 [.inr (.inr 4), .inl x, .inl x0, .inl x1, .inl x2, .inl x3, .inl x4] h Q := by
  obtain ⟨a1, a2, a3, a4, a5, a6, a7, a8, a9, b1, b2, b3, b4⟩ := hi
  subst hx
  have r4 : zWn 4 = 8 := rfl
  have s4 : zWs 4 = 24 := rfl
  refine s_194 (Or.inl rfl) (s := (m : Int)) e0 e1 e2 e3 e4 (by omega) (by omega) a6 (by omega) (by show 0 ≤ h 6 (D.1 : Int) ∧ h 6 (D.1 : Int) ≤ 1000; omega) (fun h2 hF g8 g2 gt => ?_)
  have g2 : h2 6 (D.1 : Int) = h 6 (D.1 : Int) + 1 := g2
  have hk : ∀ (r : Nat) (j : Int), 4 < r → r < 11 → j ≠ (D.1 : Int) → h2 r j = h r j := by
    intro r j h1 h2 h3
    refine hF _ _ ?_
    unfold zAf
    rw [zbeq_ne (show r ≠ 4 by omega), zbeq_ne (show r ≠ 4 + 7 by omega), decide_eq_false h3]
    simp
  have hk2 : ∀ (r : Nat) (j : Int), 4 < r → r < 11 → r ≠ 6 → h2 r j = h r j := by
    intro r j h1 h2 h3
    refine hF _ _ ?_
    unfold zAf
    rw [zbeq_ne (show r ≠ 4 by omega), zbeq_ne (show r ≠ 4 + 7 by omega), zbeq_ne (show r ≠ 4 + 2 by omega)]
    rfl
  refine hq _ (zGf_A hF) (fun j => hF _ _ rfl) ⟨?_, a2, fun p w hp hw => ?_, ?_, by omega, by omega, by omega, by omega, fun i w hi hw => ?_, (hk2 _ _ (by omega) (by omega) (by omega)).trans b1, (hk2 _ _ (by omega) (by omega) (by omega)).trans b2, (hk2 _ _ (by omega) (by omega) (by omega)).trans b3, (hk2 _ _ (by omega) (by omega) (by omega)).trans b4⟩
  · exact (hF _ _ rfl).trans a1
  · exact (hk _ _ (by omega) (by omega) (by omega)).trans (a3 p w hp hw)
  · exact (hk2 _ _ (by omega) (by omega) (by omega)).trans a4
  · show _ = (if i = m then t else S i) w
    by_cases e : i = m
    · rw [if_pos e, e]
      exact gt w hw
    · rw [if_neg e, hF 11 _ ?_]
      · exact a9 i w (by omega) hw
      · unfold zAf
        rw [decide_eq_false (show ¬ (m : Int) * 5 ≤ (i : Int) * 5 + (w : Int) by omega)]
        rfl
set_option maxHeartbeats 4000000 in
set_option maxRecDepth 100000 in
/-- Reader.takesSay -/
theorem s_176 {h : zM} {n : Nat} {t : Nat → Int} (ht : zTp h n t) {k : zTk} (hk : zTc h k) (hb : zTb n k) {D : zD} {c : Nat} {S : Nat → Nat → Int} {m : Nat} (hi : zIp h D c S m) (hm : m < 24) {Q : zQ} (h1 : ∀ r, zsay n t k = .inr r → ∀ h2, zF zGf h h2 → h2 1 2 = h 1 2 → h2 1 3 = h 1 3 → zTc h2 r.1 → zIp h2 D (c + 1) (fun i => if i = m then r.2 else S i) (m + 1) → Q (some (.inl 1)) h2) (h0 : ∀ e, zsay n t k = .inl e → ∀ h2, zF zGf h h2 → h2 1 2 = e.1 → h2 1 3 = (e.2 : Int) → Q (some (.inl 0)) h2) : zR 176 [.inr (.inr 1)] h Q := by
  have hby := fun i (hi : i < n) => (ht.2.2 i hi).2
  unfold zsay at h1 h0
  have a1 := hi.1
  have a2 := hi.2.1
  refine zx_met0 zk_176 (Or.inr ⟨_, _, rfl, rfl⟩) (Nat.le_of_ble_eq_true rfl) 1000 (fun hok hM => ?_)
  refine s_169 ht hk hb ?_
  refine s_171 ht hk hb (fun x2 k2 e2 h2 hF2 g22 g32 hk2 => ?_) (fun e z h9 hF9 g29 g39 => ?_)
  · constructor
    · intro c1
      refine And.intro (by first | exact Or.inl rfl | exact Or.inr rfl | omega) ?_
      first
      | (exact h1 _ (zbd_r e2) _ ((zGf_T hF2).tr hF3) ((g1 _).trans g22) ((g1 _).trans g32) (hk2.A g1) hi3)
      | (exact h0 _ (zbd_l z) _ (zGf_T hF9) g29 g39)
      | (exfalso; omega)
    · intro c1
      have e47 : h2 4 7 = h 4 7 := hF2 _ _ rfl
      refine And.intro (by omega) ?_
      refine s_194p (hi.T hF2) hm (by omega) (t := zst5v 1 (-4) (zoh n t k) (-4) (-4)) rfl rfl rfl rfl rfl (fun h3 hF3 g1 hi3 => ?_)
      refine And.intro (fun c => absurd c (by decide)) (fun _ => ?_)
      refine And.intro (by first | exact Or.inl rfl | exact Or.inr rfl | omega) ?_
      first
      | (exact h1 _ (zbd_r e2) _ ((zGf_T hF2).tr hF3) ((g1 _).trans g22) ((g1 _).trans g32) (hk2.A g1) hi3)
      | (exact h0 _ (zbd_l z) _ (zGf_T hF9) g29 g39)
      | (exfalso; omega)
  · refine And.intro (fun _ => ?_) (fun c => absurd (by decide) c)
    refine And.intro (by first | exact Or.inl rfl | exact Or.inr rfl | omega) ?_
    first
    | (exact h1 _ (zbd_r e2) _ ((zGf_T hF2).tr hF3) ((g1 _).trans g22) ((g1 _).trans g32) (hk2.A g1) hi3)
    | (exact h0 _ (zbd_l z) _ (zGf_T hF9) g29 g39)
    | (exfalso; omega)
set_option maxHeartbeats 4000000 in
set_option maxRecDepth 100000 in
/-- Reader.takesSet -/
theorem s_175 {h : zM} {n : Nat} {t : Nat → Int} (ht : zTp h n t) {k : zTk} (hk : zTc h k) (hb : zTb n k) {D : zD} {c : Nat} {S : Nat → Nat → Int} {m : Nat} (hi : zIp h D c S m) (hm : m < 24) {Q : zQ} (h1 : ∀ r, zset n t k = .inr r → ∀ h2, zF zGf h h2 → h2 1 2 = h 1 2 → h2 1 3 = h 1 3 → zTc h2 r.1 → zIp h2 D (c + 1) (fun i => if i = m then r.2 else S i) (m + 1) → Q (some (.inl 1)) h2) (h0 : ∀ e, zset n t k = .inl e → ∀ h2, zF zGf h h2 → h2 1 2 = e.1 → h2 1 3 = (e.2 : Int) → Q (some (.inl 0)) h2) : zR 175 [.inr (.inr 1)] h Q := by
  have hby := fun i (hi : i < n) => (ht.2.2 i hi).2
  unfold zset at h1 h0
  have a1 := hi.1
  have a2 := hi.2.1
  refine zx_met0 zk_175 (Or.inr ⟨_, _, rfl, rfl⟩) (Nat.le_of_ble_eq_true rfl) 1000 (fun hok hM => ?_)
  refine s_168 ht hk hb ?_
  refine s_171 ht hk hb (fun x2 k2 e2 h2 hF2 g22 g32 hk2 => ?_) (fun e z h9 hF9 g29 g39 => ?_)
  · constructor
    · intro c1
      refine And.intro (by first | exact Or.inl rfl | exact Or.inr rfl | omega) ?_
      first
      | (exfalso; omega)
      | (rw [if_neg (by omega)] at h1
         exact h1 _ rfl _ (((zGf_T hF2).tr (zGf_T hF3)).tr hF6) (((g1 _).trans g23).trans g22) (((g1 _).trans g33).trans g32) (hk3.A g1) hi6)
      | (rw [if_pos (by omega), zbd_r e4, zbd_r e5] at h1
         exact h1 _ rfl _ (((((zGf_T hF2).tr (zGf_T hF3)).tr (zGf_T hF4)).tr (zGf_T hF5)).tr hF6) (((((g1 _).trans g25).trans g24).trans g23).trans g22) (((((g1 _).trans g35).trans g34).trans g33).trans g32) (hk5.A g1) hi6)
      | (rw [if_pos (by omega), zbd_r e4, zbd_l z] at h0
         exact h0 _ rfl _ ((((zGf_T hF2).tr (zGf_T hF3)).tr (zGf_T hF4)).tr (zGf_T hF9)) g29 g39)
      | (rw [if_pos (by omega), zbd_l z] at h0
         exact h0 _ rfl _ (((zGf_T hF2).tr (zGf_T hF3)).tr (zGf_T hF9)) g29 g39)
      | (rw [zbd_l z] at h0
         exact h0 _ rfl _ ((zGf_T hF2).tr (zGf_T hF9)) g29 g39)
      | (rw [zbd_l z] at h0
         exact h0 _ rfl _ (zGf_T hF9) g29 g39)
    · intro c1
      have hb2 := zta_b hby hb e2
      have ht2 := ht.fr hF2
      rw [zbd_r e2] at h1 h0
      refine s_169 ht2 hk2 hb2 ?_
      refine s_171 ht2 hk2 hb2 (fun x3 k3 e3 h3 hF3 g23 g33 hk3 => ?_) (fun e z h9 hF9 g29 g39 => ?_)
      · constructor
        · intro c2
          refine And.intro (by first | exact Or.inl rfl | exact Or.inr rfl | omega) ?_
          first
          | (exfalso; omega)
          | (rw [if_neg (by omega)] at h1
             exact h1 _ rfl _ (((zGf_T hF2).tr (zGf_T hF3)).tr hF6) (((g1 _).trans g23).trans g22) (((g1 _).trans g33).trans g32) (hk3.A g1) hi6)
          | (rw [if_pos (by omega), zbd_r e4, zbd_r e5] at h1
             exact h1 _ rfl _ (((((zGf_T hF2).tr (zGf_T hF3)).tr (zGf_T hF4)).tr (zGf_T hF5)).tr hF6) (((((g1 _).trans g25).trans g24).trans g23).trans g22) (((((g1 _).trans g35).trans g34).trans g33).trans g32) (hk5.A g1) hi6)
          | (rw [if_pos (by omega), zbd_r e4, zbd_l z] at h0
             exact h0 _ rfl _ ((((zGf_T hF2).tr (zGf_T hF3)).tr (zGf_T hF4)).tr (zGf_T hF9)) g29 g39)
          | (rw [if_pos (by omega), zbd_l z] at h0
             exact h0 _ rfl _ (((zGf_T hF2).tr (zGf_T hF3)).tr (zGf_T hF9)) g29 g39)
          | (rw [zbd_l z] at h0
             exact h0 _ rfl _ ((zGf_T hF2).tr (zGf_T hF9)) g29 g39)
          | (rw [zbd_l z] at h0
             exact h0 _ rfl _ (zGf_T hF9) g29 g39)
        · intro c2
          have hb3 := zta_b hby hb2 e3
          have ht3 := ht2.fr hF3
          rw [zbd_r e3] at h1 h0
          have s3 := hk3.2.2.1
          have hi3 := (hi.T hF2).T hF3
          have e47 := hi3.1
          constructor
          · intro c3
            refine s_170 ht3 hk3 hb3 ?_
            refine s_171 ht3 hk3 hb3 (fun x4 k4 e4 h4 hF4 g24 g34 hk4 => ?_) (fun e z h9 hF9 g29 g39 => ?_)
            · constructor
              · intro c4
                refine And.intro (by first | exact Or.inl rfl | exact Or.inr rfl | omega) ?_
                first
                | (exfalso; omega)
                | (rw [if_neg (by omega)] at h1
                   exact h1 _ rfl _ (((zGf_T hF2).tr (zGf_T hF3)).tr hF6) (((g1 _).trans g23).trans g22) (((g1 _).trans g33).trans g32) (hk3.A g1) hi6)
                | (rw [if_pos (by omega), zbd_r e4, zbd_r e5] at h1
                   exact h1 _ rfl _ (((((zGf_T hF2).tr (zGf_T hF3)).tr (zGf_T hF4)).tr (zGf_T hF5)).tr hF6) (((((g1 _).trans g25).trans g24).trans g23).trans g22) (((((g1 _).trans g35).trans g34).trans g33).trans g32) (hk5.A g1) hi6)
                | (rw [if_pos (by omega), zbd_r e4, zbd_l z] at h0
                   exact h0 _ rfl _ ((((zGf_T hF2).tr (zGf_T hF3)).tr (zGf_T hF4)).tr (zGf_T hF9)) g29 g39)
                | (rw [if_pos (by omega), zbd_l z] at h0
                   exact h0 _ rfl _ (((zGf_T hF2).tr (zGf_T hF3)).tr (zGf_T hF9)) g29 g39)
                | (rw [zbd_l z] at h0
                   exact h0 _ rfl _ ((zGf_T hF2).tr (zGf_T hF9)) g29 g39)
                | (rw [zbd_l z] at h0
                   exact h0 _ rfl _ (zGf_T hF9) g29 g39)
              · intro c4
                have hb4 := zta_b hby hb3 e4
                have ht4 := ht3.fr hF4
                refine s_169 ht4 hk4 hb4 ?_
                refine s_171 ht4 hk4 hb4 (fun x5 k5 e5 h5 hF5 g25 g35 hk5 => ?_) (fun e z h9 hF9 g29 g39 => ?_)
                · constructor
                  · intro c5
                    refine And.intro (by first | exact Or.inl rfl | exact Or.inr rfl | omega) ?_
                    first
                    | (exfalso; omega)
                    | (rw [if_neg (by omega)] at h1
                       exact h1 _ rfl _ (((zGf_T hF2).tr (zGf_T hF3)).tr hF6) (((g1 _).trans g23).trans g22) (((g1 _).trans g33).trans g32) (hk3.A g1) hi6)
                    | (rw [if_pos (by omega), zbd_r e4, zbd_r e5] at h1
                       exact h1 _ rfl _ (((((zGf_T hF2).tr (zGf_T hF3)).tr (zGf_T hF4)).tr (zGf_T hF5)).tr hF6) (((((g1 _).trans g25).trans g24).trans g23).trans g22) (((((g1 _).trans g35).trans g34).trans g33).trans g32) (hk5.A g1) hi6)
                    | (rw [if_pos (by omega), zbd_r e4, zbd_l z] at h0
                       exact h0 _ rfl _ ((((zGf_T hF2).tr (zGf_T hF3)).tr (zGf_T hF4)).tr (zGf_T hF9)) g29 g39)
                    | (rw [if_pos (by omega), zbd_l z] at h0
                       exact h0 _ rfl _ (((zGf_T hF2).tr (zGf_T hF3)).tr (zGf_T hF9)) g29 g39)
                    | (rw [zbd_l z] at h0
                       exact h0 _ rfl _ ((zGf_T hF2).tr (zGf_T hF9)) g29 g39)
                    | (rw [zbd_l z] at h0
                       exact h0 _ rfl _ (zGf_T hF9) g29 g39)
                  · intro c5
                    have hi5 := (hi3.T hF4).T hF5
                    have e475 := hi5.1
                    refine And.intro (by omega) ?_
                    refine s_194p hi5 hm (by omega) (t := zst5v 0 (zvh n t k) (zoh n t k2) (zoq n t k3) (zoh n t k4)) rfl rfl rfl rfl rfl (fun h6 hF6 g1 hi6 => ?_)
                    refine And.intro (fun c => absurd c (by decide)) (fun _ => ?_)
                    refine And.intro (by first | exact Or.inl rfl | exact Or.inr rfl | omega) ?_
                    first
                    | (exfalso; omega)
                    | (rw [if_neg (by omega)] at h1
                       exact h1 _ rfl _ (((zGf_T hF2).tr (zGf_T hF3)).tr hF6) (((g1 _).trans g23).trans g22) (((g1 _).trans g33).trans g32) (hk3.A g1) hi6)
                    | (rw [if_pos (by omega), zbd_r e4, zbd_r e5] at h1
                       exact h1 _ rfl _ (((((zGf_T hF2).tr (zGf_T hF3)).tr (zGf_T hF4)).tr (zGf_T hF5)).tr hF6) (((((g1 _).trans g25).trans g24).trans g23).trans g22) (((((g1 _).trans g35).trans g34).trans g33).trans g32) (hk5.A g1) hi6)
                    | (rw [if_pos (by omega), zbd_r e4, zbd_l z] at h0
                       exact h0 _ rfl _ ((((zGf_T hF2).tr (zGf_T hF3)).tr (zGf_T hF4)).tr (zGf_T hF9)) g29 g39)
                    | (rw [if_pos (by omega), zbd_l z] at h0
                       exact h0 _ rfl _ (((zGf_T hF2).tr (zGf_T hF3)).tr (zGf_T hF9)) g29 g39)
                    | (rw [zbd_l z] at h0
                       exact h0 _ rfl _ ((zGf_T hF2).tr (zGf_T hF9)) g29 g39)
                    | (rw [zbd_l z] at h0
                       exact h0 _ rfl _ (zGf_T hF9) g29 g39)
                · refine And.intro (fun _ => ?_) (fun c => absurd (by decide) c)
                  refine And.intro (by first | exact Or.inl rfl | exact Or.inr rfl | omega) ?_
                  first
                  | (exfalso; omega)
                  | (rw [if_neg (by omega)] at h1
                     exact h1 _ rfl _ (((zGf_T hF2).tr (zGf_T hF3)).tr hF6) (((g1 _).trans g23).trans g22) (((g1 _).trans g33).trans g32) (hk3.A g1) hi6)
                  | (rw [if_pos (by omega), zbd_r e4, zbd_r e5] at h1
                     exact h1 _ rfl _ (((((zGf_T hF2).tr (zGf_T hF3)).tr (zGf_T hF4)).tr (zGf_T hF5)).tr hF6) (((((g1 _).trans g25).trans g24).trans g23).trans g22) (((((g1 _).trans g35).trans g34).trans g33).trans g32) (hk5.A g1) hi6)
                  | (rw [if_pos (by omega), zbd_r e4, zbd_l z] at h0
                     exact h0 _ rfl _ ((((zGf_T hF2).tr (zGf_T hF3)).tr (zGf_T hF4)).tr (zGf_T hF9)) g29 g39)
                  | (rw [if_pos (by omega), zbd_l z] at h0
                     exact h0 _ rfl _ (((zGf_T hF2).tr (zGf_T hF3)).tr (zGf_T hF9)) g29 g39)
                  | (rw [zbd_l z] at h0
                     exact h0 _ rfl _ ((zGf_T hF2).tr (zGf_T hF9)) g29 g39)
                  | (rw [zbd_l z] at h0
                     exact h0 _ rfl _ (zGf_T hF9) g29 g39)
            · refine And.intro (fun _ => ?_) (fun c => absurd (by decide) c)
              refine And.intro (by first | exact Or.inl rfl | exact Or.inr rfl | omega) ?_
              first
              | (exfalso; omega)
              | (rw [if_neg (by omega)] at h1
                 exact h1 _ rfl _ (((zGf_T hF2).tr (zGf_T hF3)).tr hF6) (((g1 _).trans g23).trans g22) (((g1 _).trans g33).trans g32) (hk3.A g1) hi6)
              | (rw [if_pos (by omega), zbd_r e4, zbd_r e5] at h1
                 exact h1 _ rfl _ (((((zGf_T hF2).tr (zGf_T hF3)).tr (zGf_T hF4)).tr (zGf_T hF5)).tr hF6) (((((g1 _).trans g25).trans g24).trans g23).trans g22) (((((g1 _).trans g35).trans g34).trans g33).trans g32) (hk5.A g1) hi6)
              | (rw [if_pos (by omega), zbd_r e4, zbd_l z] at h0
                 exact h0 _ rfl _ ((((zGf_T hF2).tr (zGf_T hF3)).tr (zGf_T hF4)).tr (zGf_T hF9)) g29 g39)
              | (rw [if_pos (by omega), zbd_l z] at h0
                 exact h0 _ rfl _ (((zGf_T hF2).tr (zGf_T hF3)).tr (zGf_T hF9)) g29 g39)
              | (rw [zbd_l z] at h0
                 exact h0 _ rfl _ ((zGf_T hF2).tr (zGf_T hF9)) g29 g39)
              | (rw [zbd_l z] at h0
                 exact h0 _ rfl _ (zGf_T hF9) g29 g39)
          · intro c3
            refine And.intro (by omega) ?_
            refine s_194p hi3 hm (by omega) (t := zst5v 0 (zvh n t k) (zoh n t k2) 0 0) rfl rfl rfl rfl rfl (fun h6 hF6 g1 hi6 => ?_)
            refine And.intro (by first | exact Or.inl rfl | exact Or.inr rfl | omega) ?_
            first
            | (exfalso; omega)
            | (rw [if_neg (by omega)] at h1
               exact h1 _ rfl _ (((zGf_T hF2).tr (zGf_T hF3)).tr hF6) (((g1 _).trans g23).trans g22) (((g1 _).trans g33).trans g32) (hk3.A g1) hi6)
            | (rw [if_pos (by omega), zbd_r e4, zbd_r e5] at h1
               exact h1 _ rfl _ (((((zGf_T hF2).tr (zGf_T hF3)).tr (zGf_T hF4)).tr (zGf_T hF5)).tr hF6) (((((g1 _).trans g25).trans g24).trans g23).trans g22) (((((g1 _).trans g35).trans g34).trans g33).trans g32) (hk5.A g1) hi6)
            | (rw [if_pos (by omega), zbd_r e4, zbd_l z] at h0
               exact h0 _ rfl _ ((((zGf_T hF2).tr (zGf_T hF3)).tr (zGf_T hF4)).tr (zGf_T hF9)) g29 g39)
            | (rw [if_pos (by omega), zbd_l z] at h0
               exact h0 _ rfl _ (((zGf_T hF2).tr (zGf_T hF3)).tr (zGf_T hF9)) g29 g39)
            | (rw [zbd_l z] at h0
               exact h0 _ rfl _ ((zGf_T hF2).tr (zGf_T hF9)) g29 g39)
            | (rw [zbd_l z] at h0
               exact h0 _ rfl _ (zGf_T hF9) g29 g39)
      · refine And.intro (fun _ => ?_) (fun c => absurd (by decide) c)
        refine And.intro (by first | exact Or.inl rfl | exact Or.inr rfl | omega) ?_
        first
        | (exfalso; omega)
        | (rw [if_neg (by omega)] at h1
           exact h1 _ rfl _ (((zGf_T hF2).tr (zGf_T hF3)).tr hF6) (((g1 _).trans g23).trans g22) (((g1 _).trans g33).trans g32) (hk3.A g1) hi6)
        | (rw [if_pos (by omega), zbd_r e4, zbd_r e5] at h1
           exact h1 _ rfl _ (((((zGf_T hF2).tr (zGf_T hF3)).tr (zGf_T hF4)).tr (zGf_T hF5)).tr hF6) (((((g1 _).trans g25).trans g24).trans g23).trans g22) (((((g1 _).trans g35).trans g34).trans g33).trans g32) (hk5.A g1) hi6)
        | (rw [if_pos (by omega), zbd_r e4, zbd_l z] at h0
           exact h0 _ rfl _ ((((zGf_T hF2).tr (zGf_T hF3)).tr (zGf_T hF4)).tr (zGf_T hF9)) g29 g39)
        | (rw [if_pos (by omega), zbd_l z] at h0
           exact h0 _ rfl _ (((zGf_T hF2).tr (zGf_T hF3)).tr (zGf_T hF9)) g29 g39)
        | (rw [zbd_l z] at h0
           exact h0 _ rfl _ ((zGf_T hF2).tr (zGf_T hF9)) g29 g39)
        | (rw [zbd_l z] at h0
           exact h0 _ rfl _ (zGf_T hF9) g29 g39)
  · refine And.intro (fun _ => ?_) (fun c => absurd (by decide) c)
    refine And.intro (by first | exact Or.inl rfl | exact Or.inr rfl | omega) ?_
    first
    | (exfalso; omega)
    | (rw [if_neg (by omega)] at h1
       exact h1 _ rfl _ (((zGf_T hF2).tr (zGf_T hF3)).tr hF6) (((g1 _).trans g23).trans g22) (((g1 _).trans g33).trans g32) (hk3.A g1) hi6)
    | (rw [if_pos (by omega), zbd_r e4, zbd_r e5] at h1
       exact h1 _ rfl _ (((((zGf_T hF2).tr (zGf_T hF3)).tr (zGf_T hF4)).tr (zGf_T hF5)).tr hF6) (((((g1 _).trans g25).trans g24).trans g23).trans g22) (((((g1 _).trans g35).trans g34).trans g33).trans g32) (hk5.A g1) hi6)
    | (rw [if_pos (by omega), zbd_r e4, zbd_l z] at h0
       exact h0 _ rfl _ ((((zGf_T hF2).tr (zGf_T hF3)).tr (zGf_T hF4)).tr (zGf_T hF9)) g29 g39)
    | (rw [if_pos (by omega), zbd_l z] at h0
       exact h0 _ rfl _ (((zGf_T hF2).tr (zGf_T hF3)).tr (zGf_T hF9)) g29 g39)
    | (rw [zbd_l z] at h0
       exact h0 _ rfl _ ((zGf_T hF2).tr (zGf_T hF9)) g29 g39)
    | (rw [zbd_l z] at h0
       exact h0 _ rfl _ (zGf_T hF9) g29 g39)
