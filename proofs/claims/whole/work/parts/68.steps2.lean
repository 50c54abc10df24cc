/-! The reference reads steps -/
/-- the reference's READ part: D is read, and of the next block c steps, m in all -/
def zIm (h : zM) (D : zD) (c : Nat) (S : Nat → Nat → Int) (m : Nat) : Prop := h 82 706 = (D.1 : Int) + 1 ∧ D.1 < 8 ∧ (∀ p w : Nat, p < D.1 → w < 6 → h 82 (651 + 8 * (w : Int) + (p : Int)) = D.2.1 p w) ∧ h 82 (651 + (D.1 : Int)) = (D.2.2.1 : Int) ∧ h 82 (659 + (D.1 : Int)) = (c : Int) ∧ h 82 707 = (m : Int) ∧ m = D.2.2.1 + c ∧ m ≤ 24 ∧ ∀ i w : Nat, i < m → w < 5 → h 82 (531 + 24 * (w : Int) + (i : Int)) = S i w
theorem zIm.R {h h2 : zM} {D : zD} {c : Nat} {S : Nat → Nat → Int} {m : Nat} (hi : zIm h D c S m) (hF : zF zRm h h2) : zIm h2 D c S m := by
  obtain ⟨a1, a2, a3, a4, a5, a6, a7, a8, a9⟩ := hi
  have e : ∀ k, h2 82 k = h 82 k := fun k => hF _ _ rfl
  exact ⟨(e _).trans a1, a2, fun p w hp hw => (e _).trans (a3 p w hp hw), (e _).trans a4, (e _).trans a5, (e _).trans a6, a7, a8, fun i w hi hw => (e _).trans (a9 i w hi hw)⟩
theorem zIm.st {h : zM} {D : zD} {c : Nat} {S : Nat → Nat → Int} {m : Nat} (hi : zIm h D c S m) (hm : m < 24) {w : Nat} (hw : w < 5) {j : Int} (hj : j = 531 + 24 * (w : Int) + (m : Int)) (v : Int) : zIm (zx_st h 82 j v) D c S m := by
  obtain ⟨a1, a2, a3, a4, a5, a6, a7, a8, a9⟩ := hi
  subst hj
  refine ⟨?_, a2, fun p w hp hw => ?_, ?_, ?_, ?_, a7, a8, fun i w hi hw => ?_⟩
  · rw [zst_ne (by omega)]; exact a1
  · rw [zst_ne (by omega)]; exact a3 p w hp hw
  · rw [zst_ne (by omega)]; exact a4
  · rw [zst_ne (by omega)]; exact a5
  · rw [zst_ne (by omega)]; exact a6
  · rw [zst_ne (by omega)]; exact a9 i w hi hw
def zRe : Nat → Int → Bool := fun r k => zRm r k || (Nat.beq r 82 && decide (531 ≤ k ∧ k ≤ 707 ∧ ¬ (699 ≤ k ∧ k ≤ 705)))
theorem zRe_R {h h2 : zM} (hF : zF zRm h h2) : zF zRe h h2 := hF.mono (fun r j hf => (Bool.or_eq_false_iff.mp hf).1)
theorem zRe_i {k : Int} (h : 531 ≤ k ∧ k ≤ 707 ∧ ¬ (699 ≤ k ∧ k ≤ 705)) : zRe 82 k = true := by
  unfold zRe
  rw [decide_eq_true h]
  simp
theorem zMs.st {h : zM} {n : Nat} {x : (Int × Nat) ⊕ zTk} (hs : zMs h n x) (j v : Int) : zMs (zx_st h 82 j v) n x := ⟨fun e q => hs.1 e q, fun k q => hs.2 k q⟩
theorem zTq.st {h : zM} {n : Nat} {t : Nat → Int} (ht : zTq h n t) (j v : Int) : zTq (zx_st h 82 j v) n t := ⟨ht.1, ht.2.1, fun i hi => ht.2.2 i hi⟩
theorem zTq.E {h h2 : zM} {n : Nat} {t : Nat → Int} (ht : zTq h n t) (hF : zF zRe h h2) : zTq h2 n t := ⟨(hF _ _ rfl).trans ht.1, ht.2.1, fun i hi => ⟨(hF _ _ rfl).trans (ht.2.2 i hi).1, (ht.2.2 i hi).2⟩⟩
theorem zWc.E {h h2 : zM} (hc : zWc h) (hF : zF zRe h h2) : zWc h2 := hc.fr (fun _ => hF _ _ rfl) (fun _ => hF _ _ rfl)
set_option maxHeartbeats 4000000 in
set_option maxRecDepth 100000 in
/-- M.isWhole -/
theorem s_64 {h : zM} {D : zD} (h706 : h 82 706 = (D.1 : Int)) (h8 : D.1 ≤ 8) (hr : ∀ p w : Nat, p < D.1 → w < 6 → h 82 (651 + 8 * (w : Int) + (p : Int)) = D.2.1 p w) {Q : zQ} (h1 : zwhole D D.1 = true → Q (some (.inl 1)) h) (h0 : zwhole D D.1 = false → Q (some (.inl 0)) h) : zR 64 [.inr (.inr 81)] h Q := by
  refine zx_met zk_64 (Or.inr ⟨_, _, rfl, rfl⟩) (Nat.le_of_ble_eq_true rfl) (fun _ => false) 1000 (fun m j L S h2 => j = 9 ∧ S = [] ∧ h2 = h ∧ ∃ (p7 : Nat) (e7 : Int), L = [some (.inr (.inr 81)), some (.inl e7), some (.inl (h 82 706)), some (.inl (p7 : Int))] ∧ p7 ≤ D.1 ∧ m = D.1 - p7 ∧ (e7 = 1 ∧ zwhole D p7 = true ∨ e7 = 0 ∧ zwhole D p7 = false)) (fun hok hM => ?_) (fun hok hM => ?_)
  · refine And.intro (by show 0 ≤ _ ∧ _ < (708 : Int); omega) ?_
    exact ⟨_, rfl, rfl, rfl, 0, _, rfl, by omega, rfl, Or.inl ⟨rfl, rfl⟩⟩
  · rintro m j L S h2 hM2 ⟨rfl, rfl, rfl, p7, e7, rfl, hp, hm, he⟩
    have he01 : e7 = 1 ∨ e7 = 0 := he.imp And.left And.left
    constructor
    · intro c1
      have e3 : h2 82 (675 + (p7 : Int)) = D.2.1 p7 3 := by
        have := hr p7 3 (by omega) (by omega)
        rw [show 651 + 8 * ((3 : Nat) : Int) + (p7 : Int) = 675 + (p7 : Int) by omega] at this
        exact this
      have e4 : h2 82 (683 + (p7 : Int)) = D.2.1 p7 4 := by
        have := hr p7 4 (by omega) (by omega)
        rw [show 651 + 8 * ((4 : Nat) : Int) + (p7 : Int) = 683 + (p7 : Int) by omega] at this
        exact this
      have ew : zwhole D (p7 + 1) = (zwhole D p7 && decide (D.2.1 p7 3 < (D.1 : Int)) && decide (D.2.1 p7 4 < (D.1 : Int))) := rfl
      constructor
      · intro c2
        refine And.intro (by omega) ?_
        refine ⟨D.1 - (p7 + 1), by omega, rfl, rfl, rfl, p7 + 1, _, rfl, by omega, rfl, ?_⟩
        rw [ew]
        first
        | (left
           have he2 := he.resolve_right (fun q => by have := q.1; omega)
           refine ⟨rfl, ?_⟩
           rw [he2.2, decide_eq_true (show D.2.1 p7 3 < (D.1 : Int) by omega), decide_eq_true (show D.2.1 p7 4 < (D.1 : Int) by omega)]
           rfl)
        | (right
           refine ⟨rfl, ?_⟩
           first
           | (rw [decide_eq_false (show ¬ D.2.1 p7 3 < (D.1 : Int) by omega)]; simp)
           | (rw [decide_eq_false (show ¬ D.2.1 p7 4 < (D.1 : Int) by omega)]; simp)
           | (have he2 := he.resolve_left (fun q => by have := q.1; omega)
              rw [he2.2]; rfl))
      · intro c2
        refine And.intro (by omega) ?_
        refine And.intro (by show 0 ≤ _ ∧ _ < (708 : Int); omega) ?_
        constructor
        · intro c3
          refine And.intro (by omega) ?_
          refine And.intro (by show 0 ≤ _ ∧ _ < (708 : Int); omega) ?_
          constructor
          · intro c4
            refine And.intro (by omega) ?_
            refine ⟨D.1 - (p7 + 1), by omega, rfl, rfl, rfl, p7 + 1, _, rfl, by omega, rfl, ?_⟩
            rw [ew]
            first
            | (left
               have he2 := he.resolve_right (fun q => by have := q.1; omega)
               refine ⟨rfl, ?_⟩
               rw [he2.2, decide_eq_true (show D.2.1 p7 3 < (D.1 : Int) by omega), decide_eq_true (show D.2.1 p7 4 < (D.1 : Int) by omega)]
               rfl)
            | (right
               refine ⟨rfl, ?_⟩
               first
               | (rw [decide_eq_false (show ¬ D.2.1 p7 3 < (D.1 : Int) by omega)]; simp)
               | (rw [decide_eq_false (show ¬ D.2.1 p7 4 < (D.1 : Int) by omega)]; simp)
               | (have he2 := he.resolve_left (fun q => by have := q.1; omega)
                  rw [he2.2]; rfl))
          · intro c4
            refine And.intro (by omega) ?_
            refine ⟨D.1 - (p7 + 1), by omega, rfl, rfl, rfl, p7 + 1, _, rfl, by omega, rfl, ?_⟩
            rw [ew]
            first
            | (left
               have he2 := he.resolve_right (fun q => by have := q.1; omega)
               refine ⟨rfl, ?_⟩
               rw [he2.2, decide_eq_true (show D.2.1 p7 3 < (D.1 : Int) by omega), decide_eq_true (show D.2.1 p7 4 < (D.1 : Int) by omega)]
               rfl)
            | (right
               refine ⟨rfl, ?_⟩
               first
               | (rw [decide_eq_false (show ¬ D.2.1 p7 3 < (D.1 : Int) by omega)]; simp)
               | (rw [decide_eq_false (show ¬ D.2.1 p7 4 < (D.1 : Int) by omega)]; simp)
               | (have he2 := he.resolve_left (fun q => by have := q.1; omega)
                  rw [he2.2]; rfl))
        · intro c3
          refine And.intro (by omega) ?_
          refine ⟨D.1 - (p7 + 1), by omega, rfl, rfl, rfl, p7 + 1, _, rfl, by omega, rfl, ?_⟩
          rw [ew]
          first
          | (left
             have he2 := he.resolve_right (fun q => by have := q.1; omega)
             refine ⟨rfl, ?_⟩
             rw [he2.2, decide_eq_true (show D.2.1 p7 3 < (D.1 : Int) by omega), decide_eq_true (show D.2.1 p7 4 < (D.1 : Int) by omega)]
             rfl)
          | (right
             refine ⟨rfl, ?_⟩
             first
             | (rw [decide_eq_false (show ¬ D.2.1 p7 3 < (D.1 : Int) by omega)]; simp)
             | (rw [decide_eq_false (show ¬ D.2.1 p7 4 < (D.1 : Int) by omega)]; simp)
             | (have he2 := he.resolve_left (fun q => by have := q.1; omega)
                rw [he2.2]; rfl))
    · intro c1
      refine And.intro (by first | exact Or.inl rfl | exact Or.inr rfl | omega) ?_
      have pn : p7 = D.1 := by omega
      subst pn
      rcases he with ⟨q1, q2⟩ | ⟨q1, q2⟩
      · subst q1; exact h1 q2
      · subst q1; exact h0 q2
theorem zpw_o : zpw 6 = zopn 0 ∧ zpw 7 = zopn 1 ∧ zpw 8 = zopn 2 ∧ zpw 9 = zopn 3 := by decide +kernel
theorem zopn_d : zopn 0 ≠ zopn 1 ∧ zopn 0 ≠ zopn 2 ∧ zopn 0 ≠ zopn 3 ∧ zopn 1 ≠ zopn 2 ∧ zopn 1 ≠ zopn 3 ∧ zopn 2 ≠ zopn 3 := by decide +kernel
theorem zNh_o {n : Nat} {t : Nat → Int} {k : zTk} {v : Int} (h : zNh n t k v) : (6 ≤ v ∧ v ≤ 9 → zoq n t k = v - 6 ∧ k.2.2.1 = 1) ∧ (¬ (6 ≤ v ∧ v ≤ 9) → zoq n t k = -4) := by
  obtain ⟨p6, p7, p8, p9⟩ := zpw_o
  obtain ⟨d1, d2, d3, d4, d5, d6⟩ := zopn_d
  constructor
  · intro q
    rcases h with ⟨w, rfl, hw, hz⟩ | ⟨h1, h2⟩
    · refine ⟨?_, hz.1⟩
      rcases (show w = 6 ∨ w = 7 ∨ w = 8 ∨ w = 9 by omega) with rfl | rfl | rfl | rfl
      · rw [p6] at hz
        rw [zoq, if_pos (zwbb_iff.mpr hz)]
        rfl
      · rw [p7] at hz
        rw [zoq, if_neg (by rw [zwbb_f.mpr (fun z => d1 (zwq_u z hz))]; decide), if_pos (zwbb_iff.mpr hz)]
        rfl
      · rw [p8] at hz
        rw [zoq, if_neg (by rw [zwbb_f.mpr (fun z => d2 (zwq_u z hz))]; decide), if_neg (by rw [zwbb_f.mpr (fun z => d4 (zwq_u z hz))]; decide), if_pos (zwbb_iff.mpr hz)]
        rfl
      · rw [p9] at hz
        rw [zoq, if_neg (by rw [zwbb_f.mpr (fun z => d3 (zwq_u z hz))]; decide), if_neg (by rw [zwbb_f.mpr (fun z => d5 (zwq_u z hz))]; decide), if_neg (by rw [zwbb_f.mpr (fun z => d6 (zwq_u z hz))]; decide), if_pos (zwbb_iff.mpr hz)]
        rfl
    · omega
  · intro q
    have key : ∀ w, 6 ≤ w → w < 10 → ¬ zwq n t k (zpw w) := by
      intro w w1 w2 hz2
      rcases h with ⟨u, rfl, hu, hz⟩ | ⟨h1, h2⟩
      · have e := zwq_u hz hz2
        have hd : ∀ u : Nat, u < 6 → ∀ w : Nat, w < 10 → 6 ≤ w → zpw u ≠ zpw w := by decide +kernel
        exact hd u (by omega) w w2 w1 e
      · exact h2 w w2 hz2
    have k6 := key 6 (by omega) (by omega)
    have k7 := key 7 (by omega) (by omega)
    have k8 := key 8 (by omega) (by omega)
    have k9 := key 9 (by omega) (by omega)
    rw [p6] at k6
    rw [p7] at k7
    rw [p8] at k8
    rw [p9] at k9
    rw [zoq, if_neg (by rw [zwbb_f.mpr k6]; decide), if_neg (by rw [zwbb_f.mpr k7]; decide), if_neg (by rw [zwbb_f.mpr k8]; decide), if_neg (by rw [zwbb_f.mpr k9]; decide)]
theorem zta_n {n : Nat} {t : Nat → Int} {k : zTk} {x : Int} (h : x < 0) : zta n t k x = .inl (2, k.1) := by
  unfold zta
  rw [if_pos h]
theorem zta_p {n : Nat} {t : Nat → Int} {k : zTk} {x : Int} (h : 0 ≤ x) : zta n t k x = ztk n t k.2.1 := by
  unfold zta
  rw [if_neg (by omega)]
theorem zstep_set {n : Nat} {t : Nat → Int} {k k1 k2 k3 : zTk} (hS : zwbb n t k zSET = true) (q1 : ztk n t k.2.1 = .inr k1) (q2 : zta n t k1 (zvh n t k1) = .inr k2) (q3 : zta n t k2 (zoh n t k2) = .inr k3) (hno : zoq n t k3 = -4) : zstep n t k = zbd (zsm1 n t k3) fun k4 => .inr (k4, zst5v 0 (zvh n t k1) (zoh n t k2) 0 0) := by
  unfold zstep
  rw [zbd_r q1, if_pos hS]
  unfold zset
  rw [zbd_r q2, zbd_r q3]
  by_cases s1 : k3.2.2.1 = 1
  · rw [if_pos s1, hno, zbd_l (zta_n (by omega))]
    unfold zsm1
    rw [zbd_l (zta_n (by rw [if_neg (by omega)]; omega))]
    rfl
  · rw [if_neg s1]
    rfl
theorem zstep_op {n : Nat} {t : Nat → Int} {k k1 k2 k3 : zTk} (hS : zwbb n t k zSET = true) (q1 : ztk n t k.2.1 = .inr k1) (q2 : zta n t k1 (zvh n t k1) = .inr k2) (q3 : zta n t k2 (zoh n t k2) = .inr k3) (s1 : k3.2.2.1 = 1) (ho : 0 ≤ zoq n t k3) : zstep n t k = zbd (zbd (ztk n t k3.2.1) fun k4 => zbd (zta n t k4 (zoh n t k4)) fun k5 => .inr (k5, zst5v 0 (zvh n t k1) (zoh n t k2) (zoq n t k3) (zoh n t k4))) fun r => zbd (zsm1 n t r.1) fun k6 => .inr (k6, r.2) := by
  unfold zstep
  rw [zbd_r q1, if_pos hS]
  unfold zset
  rw [zbd_r q2, zbd_r q3, if_pos s1, zta_p ho]
theorem zstep_say {n : Nat} {t : Nat → Int} {k k1 k3 : zTk} (hS : zwbb n t k zSET = false) (q1 : ztk n t k.2.1 = .inr k1) (q3 : zta n t k1 (zoh n t k1) = .inr k3) : zstep n t k = zbd (zsm1 n t k3) fun k4 => .inr (k4, zst5v 1 (-4) (zoh n t k1) (-4) (-4)) := by
  unfold zstep
  rw [zbd_r q1, if_neg (by rw [hS]; decide)]
  unfold zsay
  rw [zbd_r q3]
  rfl
/-- a fault up to the first operand -/
theorem zstep_e {n : Nat} {t : Nat → Int} {k : zTk} {e : Int × Nat} {kd : Int} (hkd : kd = 0 ∧ zwbb n t k zSET = true ∨ kd = 1 ∧ zwbb n t k zSET = false) (h : (zbd (if kd = 0 then zbd (ztk n t k.2.1) fun k1 => zta n t k1 (zvh n t k1) else ztk n t k.2.1) fun k2 => zta n t k2 (zoh n t k2)) = .inl e) : zstep n t k = .inl e := by
  unfold zstep
  cases q1 : ztk n t k.2.1 with
  | inl e1 =>
    rw [q1] at h
    rcases hkd with ⟨rfl, hS⟩ | ⟨rfl, hS⟩
    · rw [if_pos rfl] at h
      exact congrArg Sum.inl (Sum.inl.inj h)
    · rw [if_neg (by omega)] at h
      exact congrArg Sum.inl (Sum.inl.inj h)
  | inr k1 =>
    rw [q1] at h
    show zbd (if zwbb n t k zSET = true then zset n t k1 else zsay n t k1) _ = _
    rcases hkd with ⟨rfl, hS⟩ | ⟨rfl, hS⟩
    · rw [if_pos rfl] at h
      rw [if_pos hS]
      have h : (zbd (zta n t k1 (zvh n t k1)) fun k2 => zta n t k2 (zoh n t k2)) = .inl e := h
      have hz : zset n t k1 = .inl e := by
        unfold zset
        cases q2 : zta n t k1 (zvh n t k1) with
        | inl e2 =>
          rw [q2] at h
          exact congrArg Sum.inl (Sum.inl.inj h)
        | inr k2 =>
          rw [q2] at h
          have h : zta n t k2 (zoh n t k2) = .inl e := h
          show (zbd (zta n t k2 (zoh n t k2)) fun k3 => _) = _
          exact zbd_l h
      exact zbd_l hz
    · rw [if_neg (by omega)] at h
      rw [if_neg (by rw [hS]; decide)]
      have h : zta n t k1 (zoh n t k1) = .inl e := h
      have hz : zsay n t k1 = .inl e := by
        unfold zsay
        exact zbd_l h
      exact zbd_l hz
theorem zMs_i {h : zM} {n : Nat} {x : (Int × Nat) ⊕ zTk} (hs : zMs h n x) (h4 : h 81 4 = 0) : ∃ k, x = .inr k := by
  cases x with
  | inl e =>
    have := hs.1 e rfl
    omega
  | inr k => exact ⟨k, rfl⟩
theorem zMs_e {h : zM} {n : Nat} {x : (Int × Nat) ⊕ zTk} (hs : zMs h n x) (h4 : ¬ h 81 4 = 0) : ∃ e, x = .inl e := by
  cases x with
  | inl e => exact ⟨e, rfl⟩
  | inr k => exact absurd (hs.2 k rfl).1 h4
theorem zX3 {n : Nat} {t : Nat → Int} {k k3 : zTk} {kd : Int} (h : (zbd (if kd = 0 then zbd (ztk n t k.2.1) fun k1 => zta n t k1 (zvh n t k1) else ztk n t k.2.1) fun k2 => zta n t k2 (zoh n t k2)) = .inr k3) : (kd = 0 → ∃ k1 k2, ztk n t k.2.1 = .inr k1 ∧ zta n t k1 (zvh n t k1) = .inr k2 ∧ zta n t k2 (zoh n t k2) = .inr k3) ∧ (¬ kd = 0 → ∃ k1, ztk n t k.2.1 = .inr k1 ∧ zta n t k1 (zoh n t k1) = .inr k3) := by
  obtain ⟨k2, z2, z3⟩ := zbd_i h
  constructor
  · intro q
    rw [if_pos q] at z2
    obtain ⟨k1, z1, z2⟩ := zbd_i z2
    exact ⟨k1, k2, z1, z2, z3⟩
  · intro q
    rw [if_neg q] at z2
    exact ⟨k2, z2, z3⟩
theorem zstep_no {n : Nat} {t : Nat → Int} {k : zTk} {kd v1 v2 : Int} (hkd : kd = 0 ∧ zwbb n t k zSET = true ∨ kd = 1 ∧ zwbb n t k zSET = false) (hv1 : ((kd = 0 → ∀ k1 k2, (ztk n t k.2.1) = .inr k1 → zta n t k1 (zvh n t k1) = .inr k2 → v1 = zvh n t k1) ∧ (kd = 1 → v1 = -4))) (hv2 : (∀ k2 k3, (if kd = 0 then zbd (ztk n t k.2.1) fun k1 => zta n t k1 (zvh n t k1) else (ztk n t k.2.1)) = .inr k2 → zta n t k2 (zoh n t k2) = .inr k3 → v2 = zoh n t k2)) (hno : kd = 0 → ∀ k3, (zbd (if kd = 0 then zbd (ztk n t k.2.1) fun k1 => zta n t k1 (zvh n t k1) else (ztk n t k.2.1)) fun k2 => zta n t k2 (zoh n t k2)) = .inr k3 → zoq n t k3 = -4) : (∀ e, zstep n t k = .inl e → (zbd (zbd (if kd = 0 then zbd (ztk n t k.2.1) fun k1 => zta n t k1 (zvh n t k1) else (ztk n t k.2.1)) fun k2 => zta n t k2 (zoh n t k2)) fun k => zsm1 n t k) = .inl e) ∧ ∀ r, zstep n t k = .inr r → (zbd (zbd (if kd = 0 then zbd (ztk n t k.2.1) fun k1 => zta n t k1 (zvh n t k1) else (ztk n t k.2.1)) fun k2 => zta n t k2 (zoh n t k2)) fun k => zsm1 n t k) = .inr r.1 ∧ r.2 = zst5v kd v1 v2 (if kd = 0 then 0 else -4) (if kd = 0 then 0 else -4) := by
  cases hx : (zbd (if kd = 0 then zbd (ztk n t k.2.1) fun k1 => zta n t k1 (zvh n t k1) else (ztk n t k.2.1)) fun k2 => zta n t k2 (zoh n t k2)) with
  | inl e1 =>
    have hz := zstep_e hkd hx
    constructor
    · intro e he
      rw [hz] at he
      exact congrArg Sum.inl (Sum.inl.inj he)
    · intro r hr
      rw [hz] at hr
      cases hr
  | inr k3 =>
    have hst : zstep n t k = zbd (zsm1 n t k3) fun k4 => .inr (k4, zst5v kd v1 v2 (if kd = 0 then 0 else -4) (if kd = 0 then 0 else -4)) := by
      by_cases k0 : kd = 0
      · obtain ⟨k1, k2, q1, q2, q3⟩ := (zX3 hx).1 k0
        have hS : zwbb n t k zSET = true := by
          rcases hkd with q | q
          · exact q.2
          · omega
        have hX2 : (if kd = 0 then zbd (ztk n t k.2.1) fun k1 => zta n t k1 (zvh n t k1) else (ztk n t k.2.1)) = .inr k2 := by
          rw [if_pos k0, zbd_r q1]
          exact q2
        rw [zstep_set hS q1 q2 q3 (hno k0 k3 hx), if_pos k0, ← hv1.1 k0 k1 k2 q1 q2, ← hv2 k2 k3 hX2 q3, k0]
      · obtain ⟨k1, q1, q3⟩ := (zX3 hx).2 k0
        have hS : kd = 1 ∧ zwbb n t k zSET = false := by
          rcases hkd with q | q
          · exact absurd q.1 k0
          · exact q
        have hX2 : (if kd = 0 then zbd (ztk n t k.2.1) fun k1 => zta n t k1 (zvh n t k1) else (ztk n t k.2.1)) = .inr k1 := by
          rw [if_neg k0]
          exact q1
        rw [zstep_say hS.2 q1 q3, if_neg k0, ← hv2 k1 k3 hX2 q3, hv1.2 hS.1, hS.1]
    rw [hst]
    show (∀ e, _ → zsm1 n t k3 = .inl e) ∧ ∀ r : zTk × (Nat → Int), _ → zsm1 n t k3 = .inr r.1 ∧ _
    cases q6 : zsm1 n t k3 with
    | inl e1 =>
      constructor
      · intro e he
        exact congrArg Sum.inl (Sum.inl.inj he)
      · intro r hr
        cases hr
    | inr k6 =>
      constructor
      · intro e he
        cases he
      · intro r hr
        have hr : (k6, zst5v kd v1 v2 (if kd = 0 then 0 else -4) (if kd = 0 then 0 else -4)) = r := Sum.inr.inj hr
        subst hr
        exact ⟨rfl, rfl⟩
set_option maxHeartbeats 4000000 in
set_option maxRecDepth 100000 in
/-- M.readStep -/
theorem s_61 {h : zM} {n : Nat} {t : Nat → Int} (ht : zTq h n t) (hc : zWc h) {k : zTk} (hs : zMs h n (.inr k)) {D : zD} {c : Nat} {S : Nat → Nat → Int} {m : Nat} (hi : zIm h D c S m) {kd : Int} (hkd : kd = 0 ∧ zwbb n t k zSET = true ∨ kd = 1 ∧ zwbb n t k zSET = false) {Q : zQ} (h5 : m = 24 → ∀ h2, zF zRe h h2 → zMs h2 n (.inl (5, k.1)) → Q none h2) (h0 : m < 24 → ∀ e, zstep n t k = .inl e → ∀ h2, zF zRe h h2 → zMs h2 n (.inl e) → Q none h2) (h1 : m < 24 → ∀ r, zstep n t k = .inr r → ∀ h2, zF zRe h h2 → zMs h2 n (.inr r.1) → zIm h2 D (c + 1) (fun i => if i = m then r.2 else S i) (m + 1) → Q none h2) : zR 61 [.inr (.inr 81), .inl kd, .inl (D.1 : Int)] h Q := by
  have n320 := ht.2.1
  have hkd01 : kd = 0 ∨ kd = 1 := hkd.imp And.left And.left
  have a6 := hi.2.2.2.2.2.1
  have a8 := hi.2.2.2.2.2.2.2.1
  have a2 := hi.2.1
  refine zx_met zk_61 (Or.inr ⟨_, _, rfl, rfl⟩) (Nat.le_of_ble_eq_true rfl) (fun x => Nat.beq x 21 || Nat.beq x 33 || Nat.beq x 41 || Nat.beq x 63 || Nat.beq x 96 || Nat.beq x 114) 1000 (fun m0 j L S0 h2 => (j = 21 ∧ S0 = [] ∧ ∃ q4 : Option zV, L = [some (.inr (.inr 81)), some (.inl kd), some (.inl (D.1 : Int)), some (.inl (m : Int)), q4] ∧ m0 = 100 ∧ m < 24 ∧ zF zRe h h2 ∧ zIm h2 D c S m ∧ zMs h2 n (ztk n t k.2.1) ∧ h2 82 (531 + (m : Int)) = kd) ∨
    (j = 33 ∧ S0 = [] ∧ ∃ (q4 : Option zV) (v1 : Int), L = [some (.inr (.inr 81)), some (.inl kd), some (.inl (D.1 : Int)), some (.inl (m : Int)), q4] ∧ m0 = 90 ∧ m < 24 ∧ zF zRe h h2 ∧ zIm h2 D c S m ∧ zMs h2 n (if kd = 0 then zbd (ztk n t k.2.1) fun k1 => zta n t k1 (zvh n t k1) else (ztk n t k.2.1)) ∧ h2 82 (531 + (m : Int)) = kd ∧ h2 82 (555 + (m : Int)) = v1 ∧ ((kd = 0 → ∀ k1 k2, (ztk n t k.2.1) = .inr k1 → zta n t k1 (zvh n t k1) = .inr k2 → v1 = zvh n t k1) ∧ (kd = 1 → v1 = -4))) ∨
    (j = 41 ∧ S0 = [] ∧ ∃ (q4 : Option zV) (v1 v2 : Int), L = [some (.inr (.inr 81)), some (.inl kd), some (.inl (D.1 : Int)), some (.inl (m : Int)), q4] ∧ m0 = 80 ∧ m < 24 ∧ zF zRe h h2 ∧ zIm h2 D c S m ∧ zMs h2 n (zbd (if kd = 0 then zbd (ztk n t k.2.1) fun k1 => zta n t k1 (zvh n t k1) else (ztk n t k.2.1)) fun k2 => zta n t k2 (zoh n t k2)) ∧ h2 82 (531 + (m : Int)) = kd ∧ h2 82 (555 + (m : Int)) = v1 ∧ ((kd = 0 → ∀ k1 k2, (ztk n t k.2.1) = .inr k1 → zta n t k1 (zvh n t k1) = .inr k2 → v1 = zvh n t k1) ∧ (kd = 1 → v1 = -4)) ∧ h2 82 (579 + (m : Int)) = v2 ∧ (∀ k2 k3, (if kd = 0 then zbd (ztk n t k.2.1) fun k1 => zta n t k1 (zvh n t k1) else (ztk n t k.2.1)) = .inr k2 → zta n t k2 (zoh n t k2) = .inr k3 → v2 = zoh n t k2)) ∨
    (j = 63 ∧ S0 = [] ∧ ∃ (q4 : Option zV) (v1 v2 : Int), L = [some (.inr (.inr 81)), some (.inl kd), some (.inl (D.1 : Int)), some (.inl (m : Int)), q4] ∧ m0 = 70 ∧ m < 24 ∧ zF zRe h h2 ∧ zIm h2 D c S m ∧ zMs h2 n (zbd (if kd = 0 then zbd (ztk n t k.2.1) fun k1 => zta n t k1 (zvh n t k1) else (ztk n t k.2.1)) fun k2 => zta n t k2 (zoh n t k2)) ∧ h2 82 (531 + (m : Int)) = kd ∧ h2 82 (555 + (m : Int)) = v1 ∧ ((kd = 0 → ∀ k1 k2, (ztk n t k.2.1) = .inr k1 → zta n t k1 (zvh n t k1) = .inr k2 → v1 = zvh n t k1) ∧ (kd = 1 → v1 = -4)) ∧ h2 82 (579 + (m : Int)) = v2 ∧ (∀ k2 k3, (if kd = 0 then zbd (ztk n t k.2.1) fun k1 => zta n t k1 (zvh n t k1) else (ztk n t k.2.1)) = .inr k2 → zta n t k2 (zoh n t k2) = .inr k3 → v2 = zoh n t k2) ∧ h2 82 (603 + (m : Int)) = (if kd = 0 then 0 else -4) ∧ h2 82 (627 + (m : Int)) = (if kd = 0 then 0 else -4)) ∨
    (j = 96 ∧ S0 = [] ∧ ∃ (q4 : Option zV) (y : (Int × Nat) ⊕ zTk), L = [some (.inr (.inr 81)), some (.inl kd), some (.inl (D.1 : Int)), some (.inl (m : Int)), q4] ∧ m0 = 50 ∧ m < 24 ∧ zF zRe h h2 ∧ zIm h2 D c S m ∧ zMs h2 n y ∧ (∀ e, zstep n t k = .inl e → (zbd y fun k => zsm1 n t k) = .inl e) ∧ ∀ r, zstep n t k = .inr r → (zbd y fun k => zsm1 n t k) = .inr r.1 ∧ ∀ w : Nat, w < 5 → h2 82 (531 + 24 * (w : Int) + (m : Int)) = r.2 w) ∨
    (j = 114 ∧ S0 = [] ∧ ∃ (q4 : Option zV) (y : (Int × Nat) ⊕ zTk), L = [some (.inr (.inr 81)), some (.inl kd), some (.inl (D.1 : Int)), some (.inl (m : Int)), q4] ∧ m0 = 40 ∧ m < 24 ∧ zF zRe h h2 ∧ zMs h2 n y ∧ (∀ e, zstep n t k = .inl e → (zbd y fun k => zsm1 n t k) = .inl e) ∧ ∀ r, zstep n t k = .inr r → (zbd y fun k => zsm1 n t k) = .inr r.1 ∧ zIm h2 D (c + 1) (fun i => if i = m then r.2 else S i) (m + 1))) (fun hok hM => ?_) (fun hok hM => ?_)
  · refine And.intro (by show 0 ≤ _ ∧ _ < (708 : Int); omega) ?_
    constructor
    · intro c1
      obtain ⟨g4, gk, gb⟩ := hs.2 k rfl
      refine s_54k n320 g4 gk gb (by omega) (fun h2 hF2 hs2 _ => ?_)
      first
      | (exact h5 (by omega) _ (zRe_R hF2) hs2)
      | (cases hz : zstep n t k with
         | inl e =>
           rw [y0 e hz] at hs3
           exact h0 hm e hz _ (hF.tr (zRe_R hF3)) hs3
         | inr r =>
           rw [(y1 r hz).1] at hs3
           exact h1 hm r hz _ (hF.tr (zRe_R hF3)) hs3 ((y1 r hz).2.R hF3))
    · intro c1
      refine s_56x ht hs (fun h2 hF1 hs1 => ?_)
      refine And.intro (by first | omega | (rw [zst_ne (by omega)]; omega) | (simp only [zx_st]; simp; omega)) ?_
      refine And.intro (by show 0 ≤ _ ∧ _ < (708 : Int); omega) ?_
      have hi1 := hi.R hF1
      refine ⟨100, Or.inl ⟨rfl, rfl, none, ?_, rfl, by omega, (zRe_R hF1).st (zRe_i (by omega)), hi1.st (by omega) (w := 0) (by omega) (by omega) _, hs1.st _ _, ?_⟩⟩
      · rw [← a6]; rfl
      · rw [a6]; exact zst_eq _ _ _ _
  · rintro n0 i0 L S h2 hM2 (hI | hI | hI | hI | hI | hI)
    · obtain ⟨rfl, rfl, q4, rfl, hm0, hm, hF, hi2, hs2, e0⟩ := hI
      have ht2 := ht.E hF
      refine And.intro (by first | omega | (rw [zst_ne (by omega)]; omega) | (simp only [zx_st]; simp; omega)) ?_
      constructor
      · intro c2
        refine s_58x ht2 hs2 (fun h3 v hF3 hs3 _ hv => ?_)
        refine And.intro (by show 0 ≤ _ ∧ _ < (708 : Int); omega) ?_
        first
        | (have k0 : kd = 0 := by assumption
           have hi3 := hi2.R hF3
           refine ⟨90, by omega, Or.inr (Or.inl ⟨rfl, rfl, q4, v, rfl, rfl, hm, (hF.tr (zRe_R hF3)).st (zRe_i (by omega)), hi3.st hm (w := 1) (by omega) (by omega) _, ?_, ?_, zst_eq _ _ _ _, fun _ k1 k2 q1 q2 => hv k1 k2 q1 q2, fun q => by omega⟩)⟩
           · rw [if_pos k0]; exact hs3.st _ _
           · rw [zst_ne (by omega)]; exact (hF3 _ _ rfl).trans e0)
        | (refine ⟨90, by omega, Or.inr (Or.inl ⟨rfl, rfl, q4, -4, rfl, rfl, hm, hF.st (zRe_i (by omega)), hi2.st hm (w := 1) (by omega) (by omega) _, ?_, ?_, zst_eq _ _ _ _, fun q => by omega, fun _ => rfl⟩)⟩
           · rw [if_neg (by assumption)]; exact hs2.st _ _
           · rw [zst_ne (by omega)]; exact e0)
      · intro c2
        refine And.intro (by show 0 ≤ _ ∧ _ < (708 : Int); omega) ?_
        first
        | (have k0 : kd = 0 := by assumption
           have hi3 := hi2.R hF3
           refine ⟨90, by omega, Or.inr (Or.inl ⟨rfl, rfl, q4, v, rfl, rfl, hm, (hF.tr (zRe_R hF3)).st (zRe_i (by omega)), hi3.st hm (w := 1) (by omega) (by omega) _, ?_, ?_, zst_eq _ _ _ _, fun _ k1 k2 q1 q2 => hv k1 k2 q1 q2, fun q => by omega⟩)⟩
           · rw [if_pos k0]; exact hs3.st _ _
           · rw [zst_ne (by omega)]; exact (hF3 _ _ rfl).trans e0)
        | (refine ⟨90, by omega, Or.inr (Or.inl ⟨rfl, rfl, q4, -4, rfl, rfl, hm, hF.st (zRe_i (by omega)), hi2.st hm (w := 1) (by omega) (by omega) _, ?_, ?_, zst_eq _ _ _ _, fun q => by omega, fun _ => rfl⟩)⟩
           · rw [if_neg (by assumption)]; exact hs2.st _ _
           · rw [zst_ne (by omega)]; exact e0)
    · obtain ⟨rfl, rfl, q4, v1, rfl, hm0, hm, hF, hi2, hs2, e0, e1, hv1⟩ := hI
      have ht2 := ht.E hF
      refine And.intro (by first | omega | (rw [zst_ne (by omega)]; omega) | (simp only [zx_st]; simp; omega)) ?_
      refine s_59x ht2 hs2 (fun h3 v hF3 hs3 hv => ?_)
      refine And.intro (by show 0 ≤ _ ∧ _ < (708 : Int); omega) ?_
      have hi3 := hi2.R hF3
      refine ⟨80, by omega, Or.inr (Or.inr (Or.inl ⟨rfl, rfl, q4, v1, v, rfl, rfl, hm, (hF.tr (zRe_R hF3)).st (zRe_i (by omega)), hi3.st hm (w := 2) (by omega) (by omega) _, hs3.st _ _, ?_, ?_, hv1, zst_eq _ _ _ _, hv⟩))⟩
      · rw [zst_ne (by omega)]; exact (hF3 _ _ rfl).trans e0
      · rw [zst_ne (by omega)]; exact (hF3 _ _ rfl).trans e1
    · obtain ⟨rfl, rfl, q4, v1, v2, rfl, hm0, hm, hF, hi2, hs2, e0, e1, hv1, e2, hv2⟩ := hI
      refine And.intro (by first | omega | (rw [zst_ne (by omega)]; omega) | (simp only [zx_st]; simp; omega)) ?_
      constructor
      · intro c3
        refine And.intro (by show 0 ≤ _ ∧ _ < (708 : Int); omega) ?_
        refine And.intro (by first | omega | (rw [zst_ne (by omega)]; omega) | (simp only [zx_st]; simp; omega)) ?_
        constructor
        · intro c4
          refine And.intro (by show 0 ≤ _ ∧ _ < (708 : Int); omega) ?_
          first
          | (exfalso; omega)
          | (refine ⟨70, by omega, Or.inr (Or.inr (Or.inr (Or.inl ⟨rfl, rfl, q4, v1, v2, rfl, rfl, hm, (hF.st (zRe_i (by omega))).st (zRe_i (by omega)), (hi2.st hm (w := 3) (by omega) (by omega) _).st hm (w := 4) (by omega) (by omega) _, (hs2.st _ _).st _ _, ?_, ?_, hv1, ?_, hv2, ?_, ?_⟩)))⟩
             · rw [zst_ne (by omega), zst_ne (by omega)]; exact e0
             · rw [zst_ne (by omega), zst_ne (by omega)]; exact e1
             · rw [zst_ne (by omega), zst_ne (by omega)]; exact e2
             · rw [zst_ne (by omega), zst_eq]; first | (rw [if_pos (by assumption)]) | (rw [if_neg (by assumption)])
             · rw [zst_eq]; first | (rw [if_pos (by assumption)]) | (rw [if_neg (by assumption)]))
        · intro c4
          refine And.intro (by show 0 ≤ _ ∧ _ < (708 : Int); omega) ?_
          first
          | (exfalso; omega)
          | (refine ⟨70, by omega, Or.inr (Or.inr (Or.inr (Or.inl ⟨rfl, rfl, q4, v1, v2, rfl, rfl, hm, (hF.st (zRe_i (by omega))).st (zRe_i (by omega)), (hi2.st hm (w := 3) (by omega) (by omega) _).st hm (w := 4) (by omega) (by omega) _, (hs2.st _ _).st _ _, ?_, ?_, hv1, ?_, hv2, ?_, ?_⟩)))⟩
             · rw [zst_ne (by omega), zst_ne (by omega)]; exact e0
             · rw [zst_ne (by omega), zst_ne (by omega)]; exact e1
             · rw [zst_ne (by omega), zst_ne (by omega)]; exact e2
             · rw [zst_ne (by omega), zst_eq]; first | (rw [if_pos (by assumption)]) | (rw [if_neg (by assumption)])
             · rw [zst_eq]; first | (rw [if_pos (by assumption)]) | (rw [if_neg (by assumption)]))
      · intro c3
        refine And.intro (by show 0 ≤ _ ∧ _ < (708 : Int); omega) ?_
        refine And.intro (by first | omega | (rw [zst_ne (by omega)]; omega) | (simp only [zx_st]; simp; omega)) ?_
        constructor
        · intro c5
          refine And.intro (by show 0 ≤ _ ∧ _ < (708 : Int); omega) ?_
          first
          | (exfalso; omega)
          | (refine ⟨70, by omega, Or.inr (Or.inr (Or.inr (Or.inl ⟨rfl, rfl, q4, v1, v2, rfl, rfl, hm, (hF.st (zRe_i (by omega))).st (zRe_i (by omega)), (hi2.st hm (w := 3) (by omega) (by omega) _).st hm (w := 4) (by omega) (by omega) _, (hs2.st _ _).st _ _, ?_, ?_, hv1, ?_, hv2, ?_, ?_⟩)))⟩
             · rw [zst_ne (by omega), zst_ne (by omega)]; exact e0
             · rw [zst_ne (by omega), zst_ne (by omega)]; exact e1
             · rw [zst_ne (by omega), zst_ne (by omega)]; exact e2
             · rw [zst_ne (by omega), zst_eq]; first | (rw [if_pos (by assumption)]) | (rw [if_neg (by assumption)])
             · rw [zst_eq]; first | (rw [if_pos (by assumption)]) | (rw [if_neg (by assumption)]))
        · intro c5
          refine And.intro (by show 0 ≤ _ ∧ _ < (708 : Int); omega) ?_
          first
          | (exfalso; omega)
          | (refine ⟨70, by omega, Or.inr (Or.inr (Or.inr (Or.inl ⟨rfl, rfl, q4, v1, v2, rfl, rfl, hm, (hF.st (zRe_i (by omega))).st (zRe_i (by omega)), (hi2.st hm (w := 3) (by omega) (by omega) _).st hm (w := 4) (by omega) (by omega) _, (hs2.st _ _).st _ _, ?_, ?_, hv1, ?_, hv2, ?_, ?_⟩)))⟩
             · rw [zst_ne (by omega), zst_ne (by omega)]; exact e0
             · rw [zst_ne (by omega), zst_ne (by omega)]; exact e1
             · rw [zst_ne (by omega), zst_ne (by omega)]; exact e2
             · rw [zst_ne (by omega), zst_eq]; first | (rw [if_pos (by assumption)]) | (rw [if_neg (by assumption)])
             · rw [zst_eq]; first | (rw [if_pos (by assumption)]) | (rw [if_neg (by assumption)]))
    · obtain ⟨rfl, rfl, q4, v1, v2, rfl, hm0, hm, hF, hi2, hs2, e0, e1, hv1, e2, hv2, e3, e4⟩ := hI
      have ht2 := ht.E hF
      have hc2 := hc.E hF
      refine s_55x ht2 hc2 hs2 (fun v hv hvb => ?_)
      constructor
      · intro c6
        constructor
        · intro c7
          refine s_50 (fun a1 => ?_) (fun a1 => ?_)
          · refine And.intro (fun c => absurd c (by decide)) (fun _ => ?_)
            refine s_56x ht2 hs2 (fun h3 hF3 hs3 => ?_)
            refine And.intro (by first | omega | (rw [zst_ne (by omega)]; omega) | (simp only [zx_st]; simp; omega)) ?_
            refine And.intro (by first | omega | (rw [zst_ne (by omega)]; omega) | (simp only [zx_st]; simp; omega)) ?_
            refine And.intro (by show 0 ≤ _ ∧ _ < (708 : Int); omega) ?_
            refine And.intro (by first | omega | (rw [zst_ne (by omega)]; omega) | (simp only [zx_st]; simp; omega)) ?_
            refine s_59x (h := zx_st h3 82 (603 + (m : Int)) (v - 6)) ((ht2.fr hF3).st _ _) (hs3.st _ _) (fun h4 v4 hF4 hs4 hv4 => ?_)
            refine And.intro (by show 0 ≤ _ ∧ _ < (708 : Int); omega) ?_
            first
            | (-- op
               have k0 : kd = 0 := by omega
               subst k0
               have hS : zwbb n t k zSET = true := by
                 rcases hkd with q | q
                 · exact q.2
                 · omega
               obtain ⟨k3, hk3⟩ := zMs_i hs2 (by assumption)
               obtain ⟨k1, k2, q1, q2, q3⟩ := (zX3 hk3).1 rfl
               obtain ⟨o1, o2⟩ := (zNh_o (hv k3 hk3)).1 a1
               have hst := zstep_op hS q1 q2 q3 o2 (by omega)
               have hi4 := ((hi2.R hF3).st hm (w := 3) (by omega) (j := 603 + (m : Int)) (by omega) (v - 6)).R hF4
               have c1 : v1 = zvh n t k1 := hv1.1 rfl k1 k2 q1 q2
               have hX2 : (if (0 : Int) = 0 then zbd (ztk n t k.2.1) fun k1 => zta n t k1 (zvh n t k1) else ztk n t k.2.1) = .inr k2 := by
                 rw [if_pos rfl, zbd_r q1]
                 exact q2
               have c2 : v2 = zoh n t k2 := hv2 k2 k3 hX2 q3
               rw [zbd_r hk3] at hs3 hs4 hv4
               have e30 : h4 82 (603 + (m : Int)) = v - 6 := (hF4 _ _ rfl).trans (zst_eq _ _ _ _)
               have f0 : h4 82 (531 + (m : Int)) = 0 := (hF4 _ _ rfl).trans ((zst_ne (by omega)).trans ((hF3 _ _ rfl).trans e0))
               have f1 : h4 82 (555 + (m : Int)) = v1 := (hF4 _ _ rfl).trans ((zst_ne (by omega)).trans ((hF3 _ _ rfl).trans e1))
               have f2 : h4 82 (579 + (m : Int)) = v2 := (hF4 _ _ rfl).trans ((zst_ne (by omega)).trans ((hF3 _ _ rfl).trans e2))
               refine ⟨50, by omega, Or.inr (Or.inr (Or.inr (Or.inr (Or.inl ⟨rfl, rfl, _, (zbd (ztk n t k3.2.1) fun k => zta n t k (zoh n t k)), rfl, rfl, hm, ((((hF.tr (zRe_R hF3)).st (zRe_i (by omega))).tr (zRe_R hF4)).st (zRe_i (by omega))), hi4.st hm (w := 4) (by omega) (by omega) _, hs4.st _ _, fun e he => ?_, fun r hr => ?_⟩))))⟩
               · rw [hst] at he
                 cases q4 : ztk n t k3.2.1 with
                 | inl e1 =>
                   rw [q4] at he
                   exact congrArg Sum.inl (Sum.inl.inj he)
                 | inr k4 =>
                   rw [q4] at he
                   have he : (zbd (zbd (zta n t k4 (zoh n t k4)) fun k5 => Sum.inr (k5, zst5v 0 (zvh n t k1) (zoh n t k2) (zoq n t k3) (zoh n t k4))) fun r => zbd (zsm1 n t r.1) fun k6 => Sum.inr (k6, r.2)) = .inl e := he
                   show (zbd (zta n t k4 (zoh n t k4)) fun k => zsm1 n t k) = .inl e
                   cases q5 : zta n t k4 (zoh n t k4) with
                   | inl e1 =>
                     rw [q5] at he
                     exact congrArg Sum.inl (Sum.inl.inj he)
                   | inr k5 =>
                     rw [q5] at he
                     have he : (zbd (zsm1 n t k5) fun k6 => Sum.inr (k6, zst5v 0 (zvh n t k1) (zoh n t k2) (zoq n t k3) (zoh n t k4))) = .inl e := he
                     show zsm1 n t k5 = .inl e
                     cases q6 : zsm1 n t k5 with
                     | inl e1 =>
                       rw [q6] at he
                       exact congrArg Sum.inl (Sum.inl.inj he)
                     | inr k6 => rw [q6] at he; cases he
               · rw [hst] at hr
                 obtain ⟨s5, z5, hr⟩ := zbd_i hr
                 obtain ⟨k4, z4, z5⟩ := zbd_i z5
                 obtain ⟨k5, z55, z5⟩ := zbd_i z5
                 have z5 := Sum.inr.inj z5
                 subst z5
                 obtain ⟨k6, z6, hr⟩ := zbd_i hr
                 have hr := Sum.inr.inj hr
                 subst hr
                 refine ⟨?_, fun w hw => ?_⟩
                 · rw [zbd_r z4, zbd_r z55]
                   exact z6
                 · rcases (show w = 0 ∨ w = 1 ∨ w = 2 ∨ w = 3 ∨ w = 4 by omega) with rfl | rfl | rfl | rfl | rfl
                   · rw [show 531 + 24 * ((0 : Nat) : Int) + (m : Int) = 531 + (m : Int) by omega, zst_ne (by omega)]
                     exact f0
                   · rw [show 531 + 24 * ((1 : Nat) : Int) + (m : Int) = 555 + (m : Int) by omega, zst_ne (by omega)]
                     exact f1.trans c1
                   · rw [show 531 + 24 * ((2 : Nat) : Int) + (m : Int) = 579 + (m : Int) by omega, zst_ne (by omega)]
                     exact f2.trans c2
                   · rw [show 531 + 24 * ((3 : Nat) : Int) + (m : Int) = 603 + (m : Int) by omega, zst_ne (by omega)]
                     exact e30.trans o1.symm
                   · rw [show 531 + 24 * ((4 : Nat) : Int) + (m : Int) = 627 + (m : Int) by omega, zst_eq]
                     exact hv4 k4 k5 z4 z55)
            | (have hno : kd = 0 → ∀ k3, (zbd (if kd = 0 then zbd (ztk n t k.2.1) fun k1 => zta n t k1 (zvh n t k1) else (ztk n t k.2.1)) fun k2 => zta n t k2 (zoh n t k2)) = .inr k3 → zoq n t k3 = -4 := by
                 intro k0 k3 hk3
                 first
                 | (exact absurd k0 (by assumption))
                 | (exfalso
                    have := (hs2.2 k3 hk3).1
                    omega)
                 | (exact (zNh_o (hv k3 hk3)).2 a1)
                 | omega
               obtain ⟨y0, y1⟩ := zstep_no hkd hv1 hv2 hno
               refine ⟨50, by omega, Or.inr (Or.inr (Or.inr (Or.inr (Or.inl ⟨rfl, rfl, _, _, rfl, rfl, hm, hF, hi2, hs2, y0, fun r hr => ⟨(y1 r hr).1, fun w hw => ?_⟩⟩))))⟩
               rw [(y1 r hr).2]
               rcases (show w = 0 ∨ w = 1 ∨ w = 2 ∨ w = 3 ∨ w = 4 by omega) with rfl | rfl | rfl | rfl | rfl
               · rw [show 531 + 24 * ((0 : Nat) : Int) + (m : Int) = 531 + (m : Int) by omega]
                 exact e0
               · rw [show 531 + 24 * ((1 : Nat) : Int) + (m : Int) = 555 + (m : Int) by omega]
                 exact e1
               · rw [show 531 + 24 * ((2 : Nat) : Int) + (m : Int) = 579 + (m : Int) by omega]
                 exact e2
               · rw [show 531 + 24 * ((3 : Nat) : Int) + (m : Int) = 603 + (m : Int) by omega]
                 exact e3
               · rw [show 531 + 24 * ((4 : Nat) : Int) + (m : Int) = 627 + (m : Int) by omega]
                 exact e4)
          · refine And.intro (fun _ => ?_) (fun c => absurd (by decide) c)
            first
            | (-- op
               have k0 : kd = 0 := by omega
               subst k0
               have hS : zwbb n t k zSET = true := by
                 rcases hkd with q | q
                 · exact q.2
                 · omega
               obtain ⟨k3, hk3⟩ := zMs_i hs2 (by assumption)
               obtain ⟨k1, k2, q1, q2, q3⟩ := (zX3 hk3).1 rfl
               obtain ⟨o1, o2⟩ := (zNh_o (hv k3 hk3)).1 a1
               have hst := zstep_op hS q1 q2 q3 o2 (by omega)
               have hi4 := ((hi2.R hF3).st hm (w := 3) (by omega) (j := 603 + (m : Int)) (by omega) (v - 6)).R hF4
               have c1 : v1 = zvh n t k1 := hv1.1 rfl k1 k2 q1 q2
               have hX2 : (if (0 : Int) = 0 then zbd (ztk n t k.2.1) fun k1 => zta n t k1 (zvh n t k1) else ztk n t k.2.1) = .inr k2 := by
                 rw [if_pos rfl, zbd_r q1]
                 exact q2
               have c2 : v2 = zoh n t k2 := hv2 k2 k3 hX2 q3
               rw [zbd_r hk3] at hs3 hs4 hv4
               have e30 : h4 82 (603 + (m : Int)) = v - 6 := (hF4 _ _ rfl).trans (zst_eq _ _ _ _)
               have f0 : h4 82 (531 + (m : Int)) = 0 := (hF4 _ _ rfl).trans ((zst_ne (by omega)).trans ((hF3 _ _ rfl).trans e0))
               have f1 : h4 82 (555 + (m : Int)) = v1 := (hF4 _ _ rfl).trans ((zst_ne (by omega)).trans ((hF3 _ _ rfl).trans e1))
               have f2 : h4 82 (579 + (m : Int)) = v2 := (hF4 _ _ rfl).trans ((zst_ne (by omega)).trans ((hF3 _ _ rfl).trans e2))
               refine ⟨50, by omega, Or.inr (Or.inr (Or.inr (Or.inr (Or.inl ⟨rfl, rfl, _, (zbd (ztk n t k3.2.1) fun k => zta n t k (zoh n t k)), rfl, rfl, hm, ((((hF.tr (zRe_R hF3)).st (zRe_i (by omega))).tr (zRe_R hF4)).st (zRe_i (by omega))), hi4.st hm (w := 4) (by omega) (by omega) _, hs4.st _ _, fun e he => ?_, fun r hr => ?_⟩))))⟩
               · rw [hst] at he
                 cases q4 : ztk n t k3.2.1 with
                 | inl e1 =>
                   rw [q4] at he
                   exact congrArg Sum.inl (Sum.inl.inj he)
                 | inr k4 =>
                   rw [q4] at he
                   have he : (zbd (zbd (zta n t k4 (zoh n t k4)) fun k5 => Sum.inr (k5, zst5v 0 (zvh n t k1) (zoh n t k2) (zoq n t k3) (zoh n t k4))) fun r => zbd (zsm1 n t r.1) fun k6 => Sum.inr (k6, r.2)) = .inl e := he
                   show (zbd (zta n t k4 (zoh n t k4)) fun k => zsm1 n t k) = .inl e
                   cases q5 : zta n t k4 (zoh n t k4) with
                   | inl e1 =>
                     rw [q5] at he
                     exact congrArg Sum.inl (Sum.inl.inj he)
                   | inr k5 =>
                     rw [q5] at he
                     have he : (zbd (zsm1 n t k5) fun k6 => Sum.inr (k6, zst5v 0 (zvh n t k1) (zoh n t k2) (zoq n t k3) (zoh n t k4))) = .inl e := he
                     show zsm1 n t k5 = .inl e
                     cases q6 : zsm1 n t k5 with
                     | inl e1 =>
                       rw [q6] at he
                       exact congrArg Sum.inl (Sum.inl.inj he)
                     | inr k6 => rw [q6] at he; cases he
               · rw [hst] at hr
                 obtain ⟨s5, z5, hr⟩ := zbd_i hr
                 obtain ⟨k4, z4, z5⟩ := zbd_i z5
                 obtain ⟨k5, z55, z5⟩ := zbd_i z5
                 have z5 := Sum.inr.inj z5
                 subst z5
                 obtain ⟨k6, z6, hr⟩ := zbd_i hr
                 have hr := Sum.inr.inj hr
                 subst hr
                 refine ⟨?_, fun w hw => ?_⟩
                 · rw [zbd_r z4, zbd_r z55]
                   exact z6
                 · rcases (show w = 0 ∨ w = 1 ∨ w = 2 ∨ w = 3 ∨ w = 4 by omega) with rfl | rfl | rfl | rfl | rfl
                   · rw [show 531 + 24 * ((0 : Nat) : Int) + (m : Int) = 531 + (m : Int) by omega, zst_ne (by omega)]
                     exact f0
                   · rw [show 531 + 24 * ((1 : Nat) : Int) + (m : Int) = 555 + (m : Int) by omega, zst_ne (by omega)]
                     exact f1.trans c1
                   · rw [show 531 + 24 * ((2 : Nat) : Int) + (m : Int) = 579 + (m : Int) by omega, zst_ne (by omega)]
                     exact f2.trans c2
                   · rw [show 531 + 24 * ((3 : Nat) : Int) + (m : Int) = 603 + (m : Int) by omega, zst_ne (by omega)]
                     exact e30.trans o1.symm
                   · rw [show 531 + 24 * ((4 : Nat) : Int) + (m : Int) = 627 + (m : Int) by omega, zst_eq]
                     exact hv4 k4 k5 z4 z55)
            | (have hno : kd = 0 → ∀ k3, (zbd (if kd = 0 then zbd (ztk n t k.2.1) fun k1 => zta n t k1 (zvh n t k1) else (ztk n t k.2.1)) fun k2 => zta n t k2 (zoh n t k2)) = .inr k3 → zoq n t k3 = -4 := by
                 intro k0 k3 hk3
                 first
                 | (exact absurd k0 (by assumption))
                 | (exfalso
                    have := (hs2.2 k3 hk3).1
                    omega)
                 | (exact (zNh_o (hv k3 hk3)).2 a1)
                 | omega
               obtain ⟨y0, y1⟩ := zstep_no hkd hv1 hv2 hno
               refine ⟨50, by omega, Or.inr (Or.inr (Or.inr (Or.inr (Or.inl ⟨rfl, rfl, _, _, rfl, rfl, hm, hF, hi2, hs2, y0, fun r hr => ⟨(y1 r hr).1, fun w hw => ?_⟩⟩))))⟩
               rw [(y1 r hr).2]
               rcases (show w = 0 ∨ w = 1 ∨ w = 2 ∨ w = 3 ∨ w = 4 by omega) with rfl | rfl | rfl | rfl | rfl
               · rw [show 531 + 24 * ((0 : Nat) : Int) + (m : Int) = 531 + (m : Int) by omega]
                 exact e0
               · rw [show 531 + 24 * ((1 : Nat) : Int) + (m : Int) = 555 + (m : Int) by omega]
                 exact e1
               · rw [show 531 + 24 * ((2 : Nat) : Int) + (m : Int) = 579 + (m : Int) by omega]
                 exact e2
               · rw [show 531 + 24 * ((3 : Nat) : Int) + (m : Int) = 603 + (m : Int) by omega]
                 exact e3
               · rw [show 531 + 24 * ((4 : Nat) : Int) + (m : Int) = 627 + (m : Int) by omega]
                 exact e4)
        · intro c7
          first
          | (-- op
             have k0 : kd = 0 := by omega
             subst k0
             have hS : zwbb n t k zSET = true := by
               rcases hkd with q | q
               · exact q.2
               · omega
             obtain ⟨k3, hk3⟩ := zMs_i hs2 (by assumption)
             obtain ⟨k1, k2, q1, q2, q3⟩ := (zX3 hk3).1 rfl
             obtain ⟨o1, o2⟩ := (zNh_o (hv k3 hk3)).1 a1
             have hst := zstep_op hS q1 q2 q3 o2 (by omega)
             have hi4 := ((hi2.R hF3).st hm (w := 3) (by omega) (j := 603 + (m : Int)) (by omega) (v - 6)).R hF4
             have c1 : v1 = zvh n t k1 := hv1.1 rfl k1 k2 q1 q2
             have hX2 : (if (0 : Int) = 0 then zbd (ztk n t k.2.1) fun k1 => zta n t k1 (zvh n t k1) else ztk n t k.2.1) = .inr k2 := by
               rw [if_pos rfl, zbd_r q1]
               exact q2
             have c2 : v2 = zoh n t k2 := hv2 k2 k3 hX2 q3
             rw [zbd_r hk3] at hs3 hs4 hv4
             have e30 : h4 82 (603 + (m : Int)) = v - 6 := (hF4 _ _ rfl).trans (zst_eq _ _ _ _)
             have f0 : h4 82 (531 + (m : Int)) = 0 := (hF4 _ _ rfl).trans ((zst_ne (by omega)).trans ((hF3 _ _ rfl).trans e0))
             have f1 : h4 82 (555 + (m : Int)) = v1 := (hF4 _ _ rfl).trans ((zst_ne (by omega)).trans ((hF3 _ _ rfl).trans e1))
             have f2 : h4 82 (579 + (m : Int)) = v2 := (hF4 _ _ rfl).trans ((zst_ne (by omega)).trans ((hF3 _ _ rfl).trans e2))
             refine ⟨50, by omega, Or.inr (Or.inr (Or.inr (Or.inr (Or.inl ⟨rfl, rfl, _, (zbd (ztk n t k3.2.1) fun k => zta n t k (zoh n t k)), rfl, rfl, hm, ((((hF.tr (zRe_R hF3)).st (zRe_i (by omega))).tr (zRe_R hF4)).st (zRe_i (by omega))), hi4.st hm (w := 4) (by omega) (by omega) _, hs4.st _ _, fun e he => ?_, fun r hr => ?_⟩))))⟩
             · rw [hst] at he
               cases q4 : ztk n t k3.2.1 with
               | inl e1 =>
                 rw [q4] at he
                 exact congrArg Sum.inl (Sum.inl.inj he)
               | inr k4 =>
                 rw [q4] at he
                 have he : (zbd (zbd (zta n t k4 (zoh n t k4)) fun k5 => Sum.inr (k5, zst5v 0 (zvh n t k1) (zoh n t k2) (zoq n t k3) (zoh n t k4))) fun r => zbd (zsm1 n t r.1) fun k6 => Sum.inr (k6, r.2)) = .inl e := he
                 show (zbd (zta n t k4 (zoh n t k4)) fun k => zsm1 n t k) = .inl e
                 cases q5 : zta n t k4 (zoh n t k4) with
                 | inl e1 =>
                   rw [q5] at he
                   exact congrArg Sum.inl (Sum.inl.inj he)
                 | inr k5 =>
                   rw [q5] at he
                   have he : (zbd (zsm1 n t k5) fun k6 => Sum.inr (k6, zst5v 0 (zvh n t k1) (zoh n t k2) (zoq n t k3) (zoh n t k4))) = .inl e := he
                   show zsm1 n t k5 = .inl e
                   cases q6 : zsm1 n t k5 with
                   | inl e1 =>
                     rw [q6] at he
                     exact congrArg Sum.inl (Sum.inl.inj he)
                   | inr k6 => rw [q6] at he; cases he
             · rw [hst] at hr
               obtain ⟨s5, z5, hr⟩ := zbd_i hr
               obtain ⟨k4, z4, z5⟩ := zbd_i z5
               obtain ⟨k5, z55, z5⟩ := zbd_i z5
               have z5 := Sum.inr.inj z5
               subst z5
               obtain ⟨k6, z6, hr⟩ := zbd_i hr
               have hr := Sum.inr.inj hr
               subst hr
               refine ⟨?_, fun w hw => ?_⟩
               · rw [zbd_r z4, zbd_r z55]
                 exact z6
               · rcases (show w = 0 ∨ w = 1 ∨ w = 2 ∨ w = 3 ∨ w = 4 by omega) with rfl | rfl | rfl | rfl | rfl
                 · rw [show 531 + 24 * ((0 : Nat) : Int) + (m : Int) = 531 + (m : Int) by omega, zst_ne (by omega)]
                   exact f0
                 · rw [show 531 + 24 * ((1 : Nat) : Int) + (m : Int) = 555 + (m : Int) by omega, zst_ne (by omega)]
                   exact f1.trans c1
                 · rw [show 531 + 24 * ((2 : Nat) : Int) + (m : Int) = 579 + (m : Int) by omega, zst_ne (by omega)]
                   exact f2.trans c2
                 · rw [show 531 + 24 * ((3 : Nat) : Int) + (m : Int) = 603 + (m : Int) by omega, zst_ne (by omega)]
                   exact e30.trans o1.symm
                 · rw [show 531 + 24 * ((4 : Nat) : Int) + (m : Int) = 627 + (m : Int) by omega, zst_eq]
                   exact hv4 k4 k5 z4 z55)
          | (have hno : kd = 0 → ∀ k3, (zbd (if kd = 0 then zbd (ztk n t k.2.1) fun k1 => zta n t k1 (zvh n t k1) else (ztk n t k.2.1)) fun k2 => zta n t k2 (zoh n t k2)) = .inr k3 → zoq n t k3 = -4 := by
               intro k0 k3 hk3
               first
               | (exact absurd k0 (by assumption))
               | (exfalso
                  have := (hs2.2 k3 hk3).1
                  omega)
               | (exact (zNh_o (hv k3 hk3)).2 a1)
               | omega
             obtain ⟨y0, y1⟩ := zstep_no hkd hv1 hv2 hno
             refine ⟨50, by omega, Or.inr (Or.inr (Or.inr (Or.inr (Or.inl ⟨rfl, rfl, _, _, rfl, rfl, hm, hF, hi2, hs2, y0, fun r hr => ⟨(y1 r hr).1, fun w hw => ?_⟩⟩))))⟩
             rw [(y1 r hr).2]
             rcases (show w = 0 ∨ w = 1 ∨ w = 2 ∨ w = 3 ∨ w = 4 by omega) with rfl | rfl | rfl | rfl | rfl
             · rw [show 531 + 24 * ((0 : Nat) : Int) + (m : Int) = 531 + (m : Int) by omega]
               exact e0
             · rw [show 531 + 24 * ((1 : Nat) : Int) + (m : Int) = 555 + (m : Int) by omega]
               exact e1
             · rw [show 531 + 24 * ((2 : Nat) : Int) + (m : Int) = 579 + (m : Int) by omega]
               exact e2
             · rw [show 531 + 24 * ((3 : Nat) : Int) + (m : Int) = 603 + (m : Int) by omega]
               exact e3
             · rw [show 531 + 24 * ((4 : Nat) : Int) + (m : Int) = 627 + (m : Int) by omega]
               exact e4)
      · intro c6
        first
        | (-- op
           have k0 : kd = 0 := by omega
           subst k0
           have hS : zwbb n t k zSET = true := by
             rcases hkd with q | q
             · exact q.2
             · omega
           obtain ⟨k3, hk3⟩ := zMs_i hs2 (by assumption)
           obtain ⟨k1, k2, q1, q2, q3⟩ := (zX3 hk3).1 rfl
           obtain ⟨o1, o2⟩ := (zNh_o (hv k3 hk3)).1 a1
           have hst := zstep_op hS q1 q2 q3 o2 (by omega)
           have hi4 := ((hi2.R hF3).st hm (w := 3) (by omega) (j := 603 + (m : Int)) (by omega) (v - 6)).R hF4
           have c1 : v1 = zvh n t k1 := hv1.1 rfl k1 k2 q1 q2
           have hX2 : (if (0 : Int) = 0 then zbd (ztk n t k.2.1) fun k1 => zta n t k1 (zvh n t k1) else ztk n t k.2.1) = .inr k2 := by
             rw [if_pos rfl, zbd_r q1]
             exact q2
           have c2 : v2 = zoh n t k2 := hv2 k2 k3 hX2 q3
           rw [zbd_r hk3] at hs3 hs4 hv4
           have e30 : h4 82 (603 + (m : Int)) = v - 6 := (hF4 _ _ rfl).trans (zst_eq _ _ _ _)
           have f0 : h4 82 (531 + (m : Int)) = 0 := (hF4 _ _ rfl).trans ((zst_ne (by omega)).trans ((hF3 _ _ rfl).trans e0))
           have f1 : h4 82 (555 + (m : Int)) = v1 := (hF4 _ _ rfl).trans ((zst_ne (by omega)).trans ((hF3 _ _ rfl).trans e1))
           have f2 : h4 82 (579 + (m : Int)) = v2 := (hF4 _ _ rfl).trans ((zst_ne (by omega)).trans ((hF3 _ _ rfl).trans e2))
           refine ⟨50, by omega, Or.inr (Or.inr (Or.inr (Or.inr (Or.inl ⟨rfl, rfl, _, (zbd (ztk n t k3.2.1) fun k => zta n t k (zoh n t k)), rfl, rfl, hm, ((((hF.tr (zRe_R hF3)).st (zRe_i (by omega))).tr (zRe_R hF4)).st (zRe_i (by omega))), hi4.st hm (w := 4) (by omega) (by omega) _, hs4.st _ _, fun e he => ?_, fun r hr => ?_⟩))))⟩
           · rw [hst] at he
             cases q4 : ztk n t k3.2.1 with
             | inl e1 =>
               rw [q4] at he
               exact congrArg Sum.inl (Sum.inl.inj he)
             | inr k4 =>
               rw [q4] at he
               have he : (zbd (zbd (zta n t k4 (zoh n t k4)) fun k5 => Sum.inr (k5, zst5v 0 (zvh n t k1) (zoh n t k2) (zoq n t k3) (zoh n t k4))) fun r => zbd (zsm1 n t r.1) fun k6 => Sum.inr (k6, r.2)) = .inl e := he
               show (zbd (zta n t k4 (zoh n t k4)) fun k => zsm1 n t k) = .inl e
               cases q5 : zta n t k4 (zoh n t k4) with
               | inl e1 =>
                 rw [q5] at he
                 exact congrArg Sum.inl (Sum.inl.inj he)
               | inr k5 =>
                 rw [q5] at he
                 have he : (zbd (zsm1 n t k5) fun k6 => Sum.inr (k6, zst5v 0 (zvh n t k1) (zoh n t k2) (zoq n t k3) (zoh n t k4))) = .inl e := he
                 show zsm1 n t k5 = .inl e
                 cases q6 : zsm1 n t k5 with
                 | inl e1 =>
                   rw [q6] at he
                   exact congrArg Sum.inl (Sum.inl.inj he)
                 | inr k6 => rw [q6] at he; cases he
           · rw [hst] at hr
             obtain ⟨s5, z5, hr⟩ := zbd_i hr
             obtain ⟨k4, z4, z5⟩ := zbd_i z5
             obtain ⟨k5, z55, z5⟩ := zbd_i z5
             have z5 := Sum.inr.inj z5
             subst z5
             obtain ⟨k6, z6, hr⟩ := zbd_i hr
             have hr := Sum.inr.inj hr
             subst hr
             refine ⟨?_, fun w hw => ?_⟩
             · rw [zbd_r z4, zbd_r z55]
               exact z6
             · rcases (show w = 0 ∨ w = 1 ∨ w = 2 ∨ w = 3 ∨ w = 4 by omega) with rfl | rfl | rfl | rfl | rfl
               · rw [show 531 + 24 * ((0 : Nat) : Int) + (m : Int) = 531 + (m : Int) by omega, zst_ne (by omega)]
                 exact f0
               · rw [show 531 + 24 * ((1 : Nat) : Int) + (m : Int) = 555 + (m : Int) by omega, zst_ne (by omega)]
                 exact f1.trans c1
               · rw [show 531 + 24 * ((2 : Nat) : Int) + (m : Int) = 579 + (m : Int) by omega, zst_ne (by omega)]
                 exact f2.trans c2
               · rw [show 531 + 24 * ((3 : Nat) : Int) + (m : Int) = 603 + (m : Int) by omega, zst_ne (by omega)]
                 exact e30.trans o1.symm
               · rw [show 531 + 24 * ((4 : Nat) : Int) + (m : Int) = 627 + (m : Int) by omega, zst_eq]
                 exact hv4 k4 k5 z4 z55)
        | (have hno : kd = 0 → ∀ k3, (zbd (if kd = 0 then zbd (ztk n t k.2.1) fun k1 => zta n t k1 (zvh n t k1) else (ztk n t k.2.1)) fun k2 => zta n t k2 (zoh n t k2)) = .inr k3 → zoq n t k3 = -4 := by
             intro k0 k3 hk3
             first
             | (exact absurd k0 (by assumption))
             | (exfalso
                have := (hs2.2 k3 hk3).1
                omega)
             | (exact (zNh_o (hv k3 hk3)).2 a1)
             | omega
           obtain ⟨y0, y1⟩ := zstep_no hkd hv1 hv2 hno
           refine ⟨50, by omega, Or.inr (Or.inr (Or.inr (Or.inr (Or.inl ⟨rfl, rfl, _, _, rfl, rfl, hm, hF, hi2, hs2, y0, fun r hr => ⟨(y1 r hr).1, fun w hw => ?_⟩⟩))))⟩
           rw [(y1 r hr).2]
           rcases (show w = 0 ∨ w = 1 ∨ w = 2 ∨ w = 3 ∨ w = 4 by omega) with rfl | rfl | rfl | rfl | rfl
           · rw [show 531 + 24 * ((0 : Nat) : Int) + (m : Int) = 531 + (m : Int) by omega]
             exact e0
           · rw [show 531 + 24 * ((1 : Nat) : Int) + (m : Int) = 555 + (m : Int) by omega]
             exact e1
           · rw [show 531 + 24 * ((2 : Nat) : Int) + (m : Int) = 579 + (m : Int) by omega]
             exact e2
           · rw [show 531 + 24 * ((3 : Nat) : Int) + (m : Int) = 603 + (m : Int) by omega]
             exact e3
           · rw [show 531 + 24 * ((4 : Nat) : Int) + (m : Int) = 627 + (m : Int) by omega]
             exact e4)
    · obtain ⟨rfl, rfl, q4, y, rfl, hm0, hm, hF, hi2, hs2, y0, y1⟩ := hI
      obtain ⟨a1, a2, a3, a4, a5, a6, a7, a8, a9⟩ := hi2
      refine And.intro (by show 0 ≤ _ ∧ _ < (708 : Int); omega) ?_
      refine And.intro (by first | omega | (rw [zst_ne (by omega)]; omega) | (simp only [zx_st]; simp; omega)) ?_
      refine And.intro (by show 0 ≤ _ ∧ _ < (708 : Int); omega) ?_
      refine And.intro (by first | omega | (rw [zst_ne (by omega)]; omega) | (simp only [zx_st]; simp; omega)) ?_
      refine And.intro (by show 0 ≤ _ ∧ _ < (708 : Int); omega) ?_
      refine And.intro (by first | omega | (rw [zst_ne (by omega)]; omega) | (simp only [zx_st]; simp; omega)) ?_
      refine And.intro (by show 0 ≤ _ ∧ _ < (708 : Int); omega) ?_
      refine ⟨40, by omega, Or.inr (Or.inr (Or.inr (Or.inr (Or.inr ⟨rfl, rfl, q4, y, rfl, rfl, hm, (hF.st (zRe_i (by omega))).st (zRe_i (by omega)), (hs2.st _ _).st _ _, y0, fun r hr => ⟨(y1 r hr).1, ?_⟩⟩))))⟩
      have y2 := (y1 r hr).2
      refine ⟨?_, a2, fun p w hp hw => ?_, ?_, ?_, ?_, by omega, by omega, fun i w hi hw => ?_⟩
      · rw [zst_ne (by omega), zst_ne (by omega)]; exact a1
      · rw [zst_ne (by omega), zst_ne (by omega)]; exact a3 p w hp hw
      · rw [zst_ne (by omega), zst_ne (by omega)]; exact a4
      · rw [zst_eq, zst_ne (by omega), a5]; rfl
      · rw [zst_ne (by omega), zst_eq, a6]; rfl
      · rw [zst_ne (by omega), zst_ne (by omega)]
        show _ = (if i = m then r.2 else S i) w
        by_cases e : i = m
        · rw [if_pos e, e]; exact y2 w hw
        · rw [if_neg e]; exact a9 i w (by omega) hw
    · obtain ⟨rfl, rfl, q4, y, rfl, hm0, hm, hF, hs2, y0, y1⟩ := hI
      have ht2 := ht.E hF
      refine s_60x ht2 hs2 (fun h3 hF3 hs3 => ?_)
      first
      | (exact h5 (by omega) _ (zRe_R hF2) hs2)
      | (cases hz : zstep n t k with
         | inl e =>
           rw [y0 e hz] at hs3
           exact h0 hm e hz _ (hF.tr (zRe_R hF3)) hs3
         | inr r =>
           rw [(y1 r hz).1] at hs3
           exact h1 hm r hz _ (hF.tr (zRe_R hF3)) hs3 ((y1 r hz).2.R hF3))
