/-! The reference reads ends and blocks -/
theorem zIm.sb {h : zM} {D : zD} {c : Nat} {S : Nat → Nat → Int} {m : Nat} (hi : zIm h D c S m) {w : Nat} (hw : 2 ≤ w ∧ w < 6) {j : Int} (hj : j = 651 + 8 * (w : Int) + (D.1 : Int)) (v : Int) : zIm (zx_st h 82 j v) D c S m := by
  obtain ⟨a1, a2, a3, a4, a5, a6, a7, a8, a9⟩ := hi
  subst hj
  refine ⟨?_, a2, fun p w hp hw => ?_, ?_, ?_, ?_, a7, a8, fun i w hi hw => ?_⟩
  · rw [zst_ne (by omega)]; exact a1
  · rw [zst_ne (by omega)]; exact a3 p w hp hw
  · rw [zst_ne (by omega)]; exact a4
  · rw [zst_ne (by omega)]; exact a5
  · rw [zst_ne (by omega)]; exact a6
  · rw [zst_ne (by omega)]; exact a9 i w hi hw
def zGOTO : List Int := [103, 111, 116, 111]
def zIF : List Int := [105, 102]
def zSTOP : List Int := [115, 116, 111, 112]
theorem zpw_n : zpw 0 = zSET ∧ zpw 1 = zSAY ∧ zpw 2 = zGOTO ∧ zpw 3 = zIF ∧ zpw 4 = zSTOP ∧ zpw 5 = [98, 108, 111, 99, 107] := by decide +kernel
/-- what a name is, by its number -/
theorem zNh_w {n : Nat} {t : Nat → Int} {k : zTk} {v : Int} (h : zNh n t k v) {w : Nat} (hw : w < 10) : zwbb n t k (zpw w) = decide (v = (w : Int)) := by
  rcases h with ⟨u, rfl, hu, hz⟩ | ⟨h1, h2⟩
  · by_cases e : u = w
    · subst e
      rw [decide_eq_true rfl]
      exact zwbb_iff.mpr hz
    · rw [decide_eq_false (by omega), zwbb_f]
      intro hz2
      have hd : ∀ u : Nat, u < 10 → ∀ w : Nat, w < 10 → u ≠ w → zpw u ≠ zpw w := by decide +kernel
      exact hd u hu w hw e (zwq_u hz hz2)
  · rw [decide_eq_false (by omega), zwbb_f]
    exact h2 w hw
theorem zendp_no {n : Nat} {t : Nat → Int} {k : zTk} {v : Int} (h : zNh n t k v) (hv : ¬ (2 ≤ v ∧ v ≤ 4)) : zendp n t k = .inl (2, k.1) := by
  obtain ⟨p0, p1, p2, p3, p4, p5⟩ := zpw_n
  have e2 := zNh_w h (w := 2) (by omega)
  have e3 := zNh_w h (w := 3) (by omega)
  have e4 := zNh_w h (w := 4) (by omega)
  rw [p2, decide_eq_false (by omega)] at e2
  rw [p3, decide_eq_false (by omega)] at e3
  rw [p4, decide_eq_false (by omega)] at e4
  unfold zendp
  rw [if_neg (by rw [show zwbb n t k [115, 116, 111, 112] = false from e4]; decide), if_neg (by rw [show zwbb n t k [103, 111, 116, 111] = false from e2]; decide), if_neg (by rw [show zwbb n t k [105, 102] = false from e3]; decide)]
theorem zendp_k {n : Nat} {t : Nat → Int} {k : zTk} {kd v3 v4 v5 : Int} (hk : zNh n t k kd) (h24 : 2 ≤ kd ∧ kd ≤ 4) (hv5 : ((kd = 3 → ∀ k1 k2, (ztk n t k.2.1) = .inr k1 → zta n t k1 (zvh n t k1) = .inr k2 → v5 = zvh n t k1) ∧ (¬ kd = 3 → v5 = -4))) (hv3 : ((¬ kd = 4 → ∀ k1 k2, (if kd = 3 then zbd (ztk n t k.2.1) fun k1 => zta n t k1 (zvh n t k1) else (ztk n t k.2.1)) = .inr k1 → zbn n t k1 = .inr k2 → v3 = k1.2.2.2) ∧ (kd = 4 → v3 = -4))) (hv4 : ((kd = 3 → ∀ k1 k2, (if kd = 4 then (if kd = 3 then zbd (ztk n t k.2.1) fun k1 => zta n t k1 (zvh n t k1) else (ztk n t k.2.1)) else zbd (if kd = 3 then zbd (ztk n t k.2.1) fun k1 => zta n t k1 (zvh n t k1) else (ztk n t k.2.1)) fun k1 => zbn n t k1) = .inr k1 → zbn n t k1 = .inr k2 → v4 = k1.2.2.2) ∧ (¬ kd = 3 → v4 = -4))) : (∀ e, zendp n t k = .inl e → (if kd = 3 then zbd (if kd = 4 then (if kd = 3 then zbd (ztk n t k.2.1) fun k1 => zta n t k1 (zvh n t k1) else (ztk n t k.2.1)) else zbd (if kd = 3 then zbd (ztk n t k.2.1) fun k1 => zta n t k1 (zvh n t k1) else (ztk n t k.2.1)) fun k1 => zbn n t k1) fun k1 => zbn n t k1 else (if kd = 4 then (if kd = 3 then zbd (ztk n t k.2.1) fun k1 => zta n t k1 (zvh n t k1) else (ztk n t k.2.1)) else zbd (if kd = 3 then zbd (ztk n t k.2.1) fun k1 => zta n t k1 (zvh n t k1) else (ztk n t k.2.1)) fun k1 => zbn n t k1)) = .inl e) ∧ ∀ r, zendp n t k = .inr r → (if kd = 3 then zbd (if kd = 4 then (if kd = 3 then zbd (ztk n t k.2.1) fun k1 => zta n t k1 (zvh n t k1) else (ztk n t k.2.1)) else zbd (if kd = 3 then zbd (ztk n t k.2.1) fun k1 => zta n t k1 (zvh n t k1) else (ztk n t k.2.1)) fun k1 => zbn n t k1) fun k1 => zbn n t k1 else (if kd = 4 then (if kd = 3 then zbd (ztk n t k.2.1) fun k1 => zta n t k1 (zvh n t k1) else (ztk n t k.2.1)) else zbd (if kd = 3 then zbd (ztk n t k.2.1) fun k1 => zta n t k1 (zvh n t k1) else (ztk n t k.2.1)) fun k1 => zbn n t k1)) = .inr r.1 ∧ r.2 = (kd - 2, v3, v4, v5) := by
  obtain ⟨p0, p1, p2, p3, p4, p5⟩ := zpw_n
  have e2 := zNh_w hk (w := 2) (by omega)
  have e3 := zNh_w hk (w := 3) (by omega)
  have e4 := zNh_w hk (w := 4) (by omega)
  rw [p2] at e2
  rw [p3] at e3
  rw [p4] at e4
  unfold zendp
  rcases (show kd = 4 ∨ kd = 2 ∨ kd = 3 by omega) with rfl | rfl | rfl
  · rw [if_pos (show zwbb n t k [115, 116, 111, 112] = true from e4)]
    rw [if_neg (by omega), if_pos rfl, if_neg (by omega)]
    have c5 := hv5.2 (by omega)
    have c3 := hv3.2 rfl
    have c4 := hv4.2 (by omega)
    subst c5 c3 c4
    cases q1 : ztk n t k.2.1 with
    | inl e1 => exact ⟨fun e he => congrArg Sum.inl (Sum.inl.inj he), fun r hr => by cases hr⟩
    | inr k1 =>
      refine ⟨fun e he => (by cases he), fun r hr => ?_⟩
      have hr := Sum.inr.inj hr
      subst hr
      exact ⟨rfl, rfl⟩
  · rw [if_neg (by rw [show zwbb n t k [115, 116, 111, 112] = false from e4]; decide), if_pos (show zwbb n t k [103, 111, 116, 111] = true from e2)]
    have c5 := hv5.2 (by omega)
    have c4 := hv4.2 (by omega)
    have c3 := hv3.1 (by omega)
    rw [if_neg (by omega)] at c3
    rw [if_neg (by omega), if_neg (by omega), if_neg (by omega)]
    subst c5 c4
    cases q1 : ztk n t k.2.1 with
    | inl e1 => exact ⟨fun e he => congrArg Sum.inl (Sum.inl.inj he), fun r hr => by cases hr⟩
    | inr k1 =>
      show (∀ e, zbd (zbn n t k1) _ = .inl e → zbn n t k1 = .inl e) ∧ ∀ r : zTk × Int × Int × Int × Int, zbd (zbn n t k1) _ = .inr r → zbn n t k1 = .inr r.1 ∧ _
      cases q2 : zbn n t k1 with
      | inl e1 => exact ⟨fun e he => congrArg Sum.inl (Sum.inl.inj he), fun r hr => by cases hr⟩
      | inr k2 =>
        refine ⟨fun e he => (by cases he), fun r hr => ?_⟩
        have hr := Sum.inr.inj hr
        subst hr
        exact ⟨rfl, by rw [c3 k1 k2 q1 q2]; rfl⟩
  · rw [if_neg (by rw [show zwbb n t k [115, 116, 111, 112] = false from e4]; decide), if_neg (by rw [show zwbb n t k [103, 111, 116, 111] = false from e2]; decide), if_pos (show zwbb n t k [105, 102] = true from e3)]
    have c5 := hv5.1 rfl
    have c4 := hv4.1 rfl
    have c3 := hv3.1 (by omega)
    rw [if_pos rfl] at c3
    rw [if_neg (by omega), if_pos rfl] at c4
    rw [if_pos rfl, if_neg (by omega), if_pos rfl]
    cases q1 : ztk n t k.2.1 with
    | inl e1 => exact ⟨fun e he => congrArg Sum.inl (Sum.inl.inj he), fun r hr => by cases hr⟩
    | inr k1 =>
      have c5 := c5 k1
      rw [q1] at c3 c4
      have c3 : ∀ k2 k3, zta n t k1 (zvh n t k1) = .inr k2 → zbn n t k2 = .inr k3 → v3 = k2.2.2.2 := c3
      have c4 : ∀ k3 k4, (zbd (zta n t k1 (zvh n t k1)) fun k1 => zbn n t k1) = .inr k3 → zbn n t k3 = .inr k4 → v4 = k3.2.2.2 := c4
      show (∀ e, (zbd (zta n t k1 (zvh n t k1)) fun k2 => zbd (zbn n t k2) fun k3 => zbd (zbn n t k3) fun k4 => .inr (k4, 1, k2.2.2.2, k3.2.2.2, zvh n t k1)) = .inl e → (zbd (zbd (zta n t k1 (zvh n t k1)) fun k1 => zbn n t k1) fun k1 => zbn n t k1) = .inl e) ∧ ∀ r : zTk × Int × Int × Int × Int, (zbd (zta n t k1 (zvh n t k1)) fun k2 => zbd (zbn n t k2) fun k3 => zbd (zbn n t k3) fun k4 => .inr (k4, 1, k2.2.2.2, k3.2.2.2, zvh n t k1)) = .inr r → (zbd (zbd (zta n t k1 (zvh n t k1)) fun k1 => zbn n t k1) fun k1 => zbn n t k1) = .inr r.1 ∧ r.2 = ((3 : Int) - 2, v3, v4, v5)
      cases q2 : zta n t k1 (zvh n t k1) with
      | inl e1 => exact ⟨fun e he => congrArg Sum.inl (Sum.inl.inj he), fun r hr => by cases hr⟩
      | inr k2 =>
        have c5 := c5 k2 q1 q2
        rw [q2] at c4
        have c3 := c3 k2
        have c4 : ∀ k3 k4, zbn n t k2 = .inr k3 → zbn n t k3 = .inr k4 → v4 = k3.2.2.2 := c4
        show (∀ e, (zbd (zbn n t k2) fun k3 => zbd (zbn n t k3) fun k4 => .inr (k4, 1, k2.2.2.2, k3.2.2.2, zvh n t k1)) = .inl e → (zbd (zbn n t k2) fun k1 => zbn n t k1) = .inl e) ∧ ∀ r : zTk × Int × Int × Int × Int, (zbd (zbn n t k2) fun k3 => zbd (zbn n t k3) fun k4 => .inr (k4, 1, k2.2.2.2, k3.2.2.2, zvh n t k1)) = .inr r → (zbd (zbn n t k2) fun k1 => zbn n t k1) = .inr r.1 ∧ r.2 = ((3 : Int) - 2, v3, v4, v5)
        cases q3 : zbn n t k2 with
        | inl e1 => exact ⟨fun e he => congrArg Sum.inl (Sum.inl.inj he), fun r hr => by cases hr⟩
        | inr k3 =>
          have c3 := c3 k3 q2 q3
          have c4 := c4 k3
          show (∀ e, (zbd (zbn n t k3) fun k4 => .inr (k4, 1, k2.2.2.2, k3.2.2.2, zvh n t k1)) = .inl e → zbn n t k3 = .inl e) ∧ ∀ r : zTk × Int × Int × Int × Int, (zbd (zbn n t k3) fun k4 => .inr (k4, 1, k2.2.2.2, k3.2.2.2, zvh n t k1)) = .inr r → zbn n t k3 = .inr r.1 ∧ r.2 = ((3 : Int) - 2, v3, v4, v5)
          cases q4 : zbn n t k3 with
          | inl e1 => exact ⟨fun e he => congrArg Sum.inl (Sum.inl.inj he), fun r hr => by cases hr⟩
          | inr k4 =>
            refine ⟨fun e he => (by cases he), fun r hr => ?_⟩
            have hr := Sum.inr.inj hr
            subst hr
            exact ⟨rfl, by rw [c3, c4 k4 q3 q4, c5]; rfl⟩
set_option maxHeartbeats 4000000 in
set_option maxRecDepth 100000 in
/-- M.readEnd -/
theorem s_62 {h : zM} {n : Nat} {t : Nat → Int} (ht : zTq h n t) (hc : zWc h) {k : zTk} (hs : zMs h n (.inr k)) {D : zD} {c : Nat} {S : Nat → Nat → Int} {m : Nat} (hi : zIm h D c S m) {kd : Int} (hkd : zNh n t k kd) (h24 : 2 ≤ kd ∧ kd ≤ 4) {Q : zQ} (hq : ∀ h2, zF zRe h h2 → (∀ e, zendp n t k = .inl e → zMs h2 n (.inl e)) → (∀ r, zendp n t k = .inr r → zMs h2 n (zsm1 n t r.1) ∧ zIm h2 D c S m ∧ h2 82 (667 + (D.1 : Int)) = r.2.1 ∧ h2 82 (675 + (D.1 : Int)) = r.2.2.1 ∧ h2 82 (683 + (D.1 : Int)) = r.2.2.2.1 ∧ h2 82 (691 + (D.1 : Int)) = r.2.2.2.2) → Q none h2) : zR 62 [.inr (.inr 81), .inl kd, .inl (D.1 : Int)] h Q := by
  have a2 := hi.2.1
  refine zx_met zk_62 (Or.inr ⟨_, _, rfl, rfl⟩) (Nat.le_of_ble_eq_true rfl) (fun x => Nat.beq x 24 || Nat.beq x 38 || Nat.beq x 52) 1000 (fun m0 j L S0 h2 => (j = 24 ∧ S0 = [] ∧ L = [some (.inr (.inr 81)), some (.inl kd), some (.inl (D.1 : Int))] ∧ m0 = 90 ∧ ∃ v5 : Int, zF zRe h h2 ∧ zIm h2 D c S m ∧ zMs h2 n (if kd = 3 then zbd (ztk n t k.2.1) fun k1 => zta n t k1 (zvh n t k1) else (ztk n t k.2.1)) ∧ h2 82 (667 + (D.1 : Int)) = kd - 2 ∧ h2 82 (691 + (D.1 : Int)) = v5 ∧ ((kd = 3 → ∀ k1 k2, (ztk n t k.2.1) = .inr k1 → zta n t k1 (zvh n t k1) = .inr k2 → v5 = zvh n t k1) ∧ (¬ kd = 3 → v5 = -4))) ∨
    (j = 38 ∧ S0 = [] ∧ L = [some (.inr (.inr 81)), some (.inl kd), some (.inl (D.1 : Int))] ∧ m0 = 80 ∧ ∃ v5 v3 : Int, zF zRe h h2 ∧ zIm h2 D c S m ∧ zMs h2 n (if kd = 4 then (if kd = 3 then zbd (ztk n t k.2.1) fun k1 => zta n t k1 (zvh n t k1) else (ztk n t k.2.1)) else zbd (if kd = 3 then zbd (ztk n t k.2.1) fun k1 => zta n t k1 (zvh n t k1) else (ztk n t k.2.1)) fun k1 => zbn n t k1) ∧ h2 82 (667 + (D.1 : Int)) = kd - 2 ∧ h2 82 (691 + (D.1 : Int)) = v5 ∧ ((kd = 3 → ∀ k1 k2, (ztk n t k.2.1) = .inr k1 → zta n t k1 (zvh n t k1) = .inr k2 → v5 = zvh n t k1) ∧ (¬ kd = 3 → v5 = -4)) ∧ h2 82 (675 + (D.1 : Int)) = v3 ∧ ((¬ kd = 4 → ∀ k1 k2, (if kd = 3 then zbd (ztk n t k.2.1) fun k1 => zta n t k1 (zvh n t k1) else (ztk n t k.2.1)) = .inr k1 → zbn n t k1 = .inr k2 → v3 = k1.2.2.2) ∧ (kd = 4 → v3 = -4))) ∨
    (j = 52 ∧ S0 = [] ∧ L = [some (.inr (.inr 81)), some (.inl kd), some (.inl (D.1 : Int))] ∧ m0 = 70 ∧ ∃ v5 v3 v4 : Int, zF zRe h h2 ∧ zIm h2 D c S m ∧ zMs h2 n (if kd = 3 then zbd (if kd = 4 then (if kd = 3 then zbd (ztk n t k.2.1) fun k1 => zta n t k1 (zvh n t k1) else (ztk n t k.2.1)) else zbd (if kd = 3 then zbd (ztk n t k.2.1) fun k1 => zta n t k1 (zvh n t k1) else (ztk n t k.2.1)) fun k1 => zbn n t k1) fun k1 => zbn n t k1 else (if kd = 4 then (if kd = 3 then zbd (ztk n t k.2.1) fun k1 => zta n t k1 (zvh n t k1) else (ztk n t k.2.1)) else zbd (if kd = 3 then zbd (ztk n t k.2.1) fun k1 => zta n t k1 (zvh n t k1) else (ztk n t k.2.1)) fun k1 => zbn n t k1)) ∧ h2 82 (667 + (D.1 : Int)) = kd - 2 ∧ h2 82 (691 + (D.1 : Int)) = v5 ∧ ((kd = 3 → ∀ k1 k2, (ztk n t k.2.1) = .inr k1 → zta n t k1 (zvh n t k1) = .inr k2 → v5 = zvh n t k1) ∧ (¬ kd = 3 → v5 = -4)) ∧ h2 82 (675 + (D.1 : Int)) = v3 ∧ ((¬ kd = 4 → ∀ k1 k2, (if kd = 3 then zbd (ztk n t k.2.1) fun k1 => zta n t k1 (zvh n t k1) else (ztk n t k.2.1)) = .inr k1 → zbn n t k1 = .inr k2 → v3 = k1.2.2.2) ∧ (kd = 4 → v3 = -4)) ∧ h2 82 (683 + (D.1 : Int)) = v4 ∧ ((kd = 3 → ∀ k1 k2, (if kd = 4 then (if kd = 3 then zbd (ztk n t k.2.1) fun k1 => zta n t k1 (zvh n t k1) else (ztk n t k.2.1)) else zbd (if kd = 3 then zbd (ztk n t k.2.1) fun k1 => zta n t k1 (zvh n t k1) else (ztk n t k.2.1)) fun k1 => zbn n t k1) = .inr k1 → zbn n t k1 = .inr k2 → v4 = k1.2.2.2) ∧ (¬ kd = 3 → v4 = -4)))) (fun hok hM => ?_) (fun hok hM => ?_)
  · refine s_56x ht hs (fun h2 hF1 hs1 => ?_)
    refine And.intro (by first | omega | (rw [zst_ne (by omega)]; omega)) ?_
    refine And.intro (by first | omega | (rw [zst_ne (by omega)]; omega)) ?_
    refine And.intro (by show 0 ≤ _ ∧ _ < (708 : Int); omega) ?_
    refine And.intro (by first | omega | (rw [zst_ne (by omega)]; omega)) ?_
    constructor
    · intro c1
      refine s_58x (h := zx_st h2 82 (667 + (D.1 : Int)) (kd - 2)) ((ht.fr hF1).st _ _) (hs1.st _ _) (fun h3 v hF3 hs3 _ hv => ?_)
      refine And.intro (by show 0 ≤ _ ∧ _ < (708 : Int); omega) ?_
      have hi1 := (hi.R hF1).sb (w := 2) (by omega) (j := 667 + (D.1 : Int)) (by omega) (kd - 2)
      first
      | (have k3 : kd = 3 := by assumption
         refine ⟨90, Or.inl ⟨rfl, rfl, rfl, rfl, v, (((zRe_R hF1).st (zRe_i (by omega))).tr (zRe_R hF3)).st (zRe_i (by omega)), (hi1.R hF3).sb (w := 5) (by omega) (by omega) _, ?_, ?_, zst_eq _ _ _ _, fun _ k1 k2 q1 q2 => hv k1 k2 q1 q2, fun q => absurd k3 q⟩⟩
         · rw [if_pos k3]; exact hs3.st _ _
         · rw [zst_ne (by omega)]; exact (hF3 _ _ rfl).trans (zst_eq _ _ _ _))
      | (have k3 : ¬ kd = 3 := by assumption
         refine ⟨90, Or.inl ⟨rfl, rfl, rfl, rfl, -4, ((zRe_R hF1).st (zRe_i (by omega))).st (zRe_i (by omega)), hi1.sb (w := 5) (by omega) (by omega) _, ?_, ?_, zst_eq _ _ _ _, fun q => absurd q k3, fun _ => rfl⟩⟩
         · rw [if_neg k3]; exact (hs1.st _ _).st _ _
         · rw [zst_ne (by omega)]; exact zst_eq _ _ _ _)
    · intro c1
      refine And.intro (by show 0 ≤ _ ∧ _ < (708 : Int); omega) ?_
      have hi1 := (hi.R hF1).sb (w := 2) (by omega) (j := 667 + (D.1 : Int)) (by omega) (kd - 2)
      first
      | (have k3 : kd = 3 := by assumption
         refine ⟨90, Or.inl ⟨rfl, rfl, rfl, rfl, v, (((zRe_R hF1).st (zRe_i (by omega))).tr (zRe_R hF3)).st (zRe_i (by omega)), (hi1.R hF3).sb (w := 5) (by omega) (by omega) _, ?_, ?_, zst_eq _ _ _ _, fun _ k1 k2 q1 q2 => hv k1 k2 q1 q2, fun q => absurd k3 q⟩⟩
         · rw [if_pos k3]; exact hs3.st _ _
         · rw [zst_ne (by omega)]; exact (hF3 _ _ rfl).trans (zst_eq _ _ _ _))
      | (have k3 : ¬ kd = 3 := by assumption
         refine ⟨90, Or.inl ⟨rfl, rfl, rfl, rfl, -4, ((zRe_R hF1).st (zRe_i (by omega))).st (zRe_i (by omega)), hi1.sb (w := 5) (by omega) (by omega) _, ?_, ?_, zst_eq _ _ _ _, fun q => absurd q k3, fun _ => rfl⟩⟩
         · rw [if_neg k3]; exact (hs1.st _ _).st _ _
         · rw [zst_ne (by omega)]; exact zst_eq _ _ _ _)
  · rintro n0 i0 L S h2 hM2 (hI | hI | hI)
    · obtain ⟨rfl, rfl, rfl, hm0, v5, hF, hi2, hs2, e2, e5, hv5⟩ := hI
      have ht2 := ht.E hF
      refine And.intro (by first | omega | (rw [zst_ne (by omega)]; omega)) ?_
      constructor
      · intro c2
        refine And.intro (by show 0 ≤ _ ∧ _ < (708 : Int); omega) ?_
        first
        | (have k4 : ¬ kd = 4 := by assumption
           refine ⟨80, by omega, Or.inr (Or.inl ⟨rfl, rfl, rfl, rfl, v5, v, (hF.tr (zRe_R hF3)).st (zRe_i (by omega)), (hi2.R hF3).sb (w := 3) (by omega) (by omega) _, ?_, ?_, ?_, hv5, zst_eq _ _ _ _, fun _ k1 k2 q1 q2 => hv k1 k2 q1 q2, fun q => absurd q k4⟩)⟩
           · rw [if_neg k4]; exact hs3.st _ _
           · rw [zst_ne (by omega)]; exact (hF3 _ _ rfl).trans e2
           · rw [zst_ne (by omega)]; exact (hF3 _ _ rfl).trans e5)
        | (have k4 : kd = 4 := by assumption
           refine ⟨80, by omega, Or.inr (Or.inl ⟨rfl, rfl, rfl, rfl, v5, -4, hF.st (zRe_i (by omega)), hi2.sb (w := 3) (by omega) (by omega) _, ?_, ?_, ?_, hv5, zst_eq _ _ _ _, fun q => absurd k4 q, fun _ => rfl⟩)⟩
           · rw [if_pos k4]; exact hs2.st _ _
           · rw [zst_ne (by omega)]; exact e2
           · rw [zst_ne (by omega)]; exact e5)
      · intro c2
        refine s_57x ht2 hs2 (fun h3 v hF3 hs3 hv => ?_)
        refine And.intro (by show 0 ≤ _ ∧ _ < (708 : Int); omega) ?_
        first
        | (have k4 : ¬ kd = 4 := by assumption
           refine ⟨80, by omega, Or.inr (Or.inl ⟨rfl, rfl, rfl, rfl, v5, v, (hF.tr (zRe_R hF3)).st (zRe_i (by omega)), (hi2.R hF3).sb (w := 3) (by omega) (by omega) _, ?_, ?_, ?_, hv5, zst_eq _ _ _ _, fun _ k1 k2 q1 q2 => hv k1 k2 q1 q2, fun q => absurd q k4⟩)⟩
           · rw [if_neg k4]; exact hs3.st _ _
           · rw [zst_ne (by omega)]; exact (hF3 _ _ rfl).trans e2
           · rw [zst_ne (by omega)]; exact (hF3 _ _ rfl).trans e5)
        | (have k4 : kd = 4 := by assumption
           refine ⟨80, by omega, Or.inr (Or.inl ⟨rfl, rfl, rfl, rfl, v5, -4, hF.st (zRe_i (by omega)), hi2.sb (w := 3) (by omega) (by omega) _, ?_, ?_, ?_, hv5, zst_eq _ _ _ _, fun q => absurd k4 q, fun _ => rfl⟩)⟩
           · rw [if_pos k4]; exact hs2.st _ _
           · rw [zst_ne (by omega)]; exact e2
           · rw [zst_ne (by omega)]; exact e5)
    · obtain ⟨rfl, rfl, rfl, hm0, v5, v3, hF, hi2, hs2, e2, e5, hv5, e3, hv3⟩ := hI
      have ht2 := ht.E hF
      refine And.intro (by first | omega | (rw [zst_ne (by omega)]; omega)) ?_
      constructor
      · intro c3
        refine s_57x ht2 hs2 (fun h3 v hF3 hs3 hv => ?_)
        refine And.intro (by show 0 ≤ _ ∧ _ < (708 : Int); omega) ?_
        first
        | (have k3 : kd = 3 := by assumption
           refine ⟨70, by omega, Or.inr (Or.inr ⟨rfl, rfl, rfl, rfl, v5, v3, v, (hF.tr (zRe_R hF3)).st (zRe_i (by omega)), (hi2.R hF3).sb (w := 4) (by omega) (by omega) _, ?_, ?_, ?_, hv5, ?_, hv3, zst_eq _ _ _ _, fun _ k1 k2 q1 q2 => hv k1 k2 q1 q2, fun q => absurd k3 q⟩)⟩
           · rw [if_pos k3]; exact hs3.st _ _
           · rw [zst_ne (by omega)]; exact (hF3 _ _ rfl).trans e2
           · rw [zst_ne (by omega)]; exact (hF3 _ _ rfl).trans e5
           · rw [zst_ne (by omega)]; exact (hF3 _ _ rfl).trans e3)
        | (have k3 : ¬ kd = 3 := by assumption
           refine ⟨70, by omega, Or.inr (Or.inr ⟨rfl, rfl, rfl, rfl, v5, v3, -4, hF.st (zRe_i (by omega)), hi2.sb (w := 4) (by omega) (by omega) _, ?_, ?_, ?_, hv5, ?_, hv3, zst_eq _ _ _ _, fun q => absurd q k3, fun _ => rfl⟩)⟩
           · rw [if_neg k3]; exact hs2.st _ _
           · rw [zst_ne (by omega)]; exact e2
           · rw [zst_ne (by omega)]; exact e5
           · rw [zst_ne (by omega)]; exact e3)
      · intro c3
        refine And.intro (by show 0 ≤ _ ∧ _ < (708 : Int); omega) ?_
        first
        | (have k3 : kd = 3 := by assumption
           refine ⟨70, by omega, Or.inr (Or.inr ⟨rfl, rfl, rfl, rfl, v5, v3, v, (hF.tr (zRe_R hF3)).st (zRe_i (by omega)), (hi2.R hF3).sb (w := 4) (by omega) (by omega) _, ?_, ?_, ?_, hv5, ?_, hv3, zst_eq _ _ _ _, fun _ k1 k2 q1 q2 => hv k1 k2 q1 q2, fun q => absurd k3 q⟩)⟩
           · rw [if_pos k3]; exact hs3.st _ _
           · rw [zst_ne (by omega)]; exact (hF3 _ _ rfl).trans e2
           · rw [zst_ne (by omega)]; exact (hF3 _ _ rfl).trans e5
           · rw [zst_ne (by omega)]; exact (hF3 _ _ rfl).trans e3)
        | (have k3 : ¬ kd = 3 := by assumption
           refine ⟨70, by omega, Or.inr (Or.inr ⟨rfl, rfl, rfl, rfl, v5, v3, -4, hF.st (zRe_i (by omega)), hi2.sb (w := 4) (by omega) (by omega) _, ?_, ?_, ?_, hv5, ?_, hv3, zst_eq _ _ _ _, fun q => absurd q k3, fun _ => rfl⟩)⟩
           · rw [if_neg k3]; exact hs2.st _ _
           · rw [zst_ne (by omega)]; exact e2
           · rw [zst_ne (by omega)]; exact e5
           · rw [zst_ne (by omega)]; exact e3)
    · obtain ⟨rfl, rfl, rfl, hm0, v5, v3, v4, hF, hi2, hs2, e2, e5, hv5, e3, hv3, e4, hv4⟩ := hI
      have ht2 := ht.E hF
      refine s_60x ht2 hs2 (fun h3 hF3 hs3 => ?_)
      obtain ⟨y0, y1⟩ := zendp_k hkd h24 hv5 hv3 hv4
      refine hq _ (hF.tr (zRe_R hF3)) (fun e he => ?_) (fun r hr => ?_)
      · rw [y0 e he] at hs3
        exact hs3
      · obtain ⟨z1, z2⟩ := y1 r hr
        rw [z1] at hs3
        rw [z2]
        exact ⟨hs3, hi2.R hF3, (hF3 _ _ rfl).trans e2, (hF3 _ _ rfl).trans e3, (hF3 _ _ rfl).trans e4, (hF3 _ _ rfl).trans e5⟩
