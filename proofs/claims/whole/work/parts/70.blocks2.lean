/-! The reference reads a block -/
def zDm (h : zM) (D : zD) : Prop := h 82 706 = (D.1 : Int) ∧ D.1 ≤ 8 ∧ (∀ p w : Nat, p < D.1 → w < 6 → h 82 (651 + 8 * (w : Int) + (p : Int)) = D.2.1 p w) ∧ h 82 707 = (D.2.2.1 : Int) ∧ D.2.2.1 ≤ 24 ∧ ∀ i w : Nat, i < D.2.2.1 → w < 5 → h 82 (531 + 24 * (w : Int) + (i : Int)) = D.2.2.2 i w
def zBk (h : zM) (n : Nat) (t : Nat → Int) (k : zTk) (D : zD) (c : Nat) (x : (Int × Nat) ⊕ zTk) (S : Nat → Nat → Int) (m : Nat) : Prop := zMs h n x ∧ (∀ e, x = .inl e → zblock n t k D = .inl e) ∧ ∀ k2, x = .inr k2 → zIm h D c S m ∧ zblock n t k D = zbd (zsteps n t (25 - c) k2 m S) (zbrest n t D)
theorem zblock_no {n : Nat} {t : Nat → Int} {k : zTk} {D : zD} {v : Int} (h : zNh n t k v) (hv : ¬ v = 5) : zblock n t k D = .inl (2, k.1) := by
  have e := zNh_w h (w := 5) (by omega)
  rw [zpw_n.2.2.2.2.2, decide_eq_false (by omega)] at e
  unfold zblock
  rw [if_neg (by rw [e]; decide)]
theorem zNh_5 {n : Nat} {t : Nat → Int} {k : zTk} {v : Int} (h : zNh n t k v) (hv : v = 5) : zwbb n t k [98, 108, 111, 99, 107] = true := by
  have e := zNh_w h (w := 5) (by omega)
  rw [zpw_n.2.2.2.2.2, decide_eq_true (by omega)] at e
  exact e
theorem zblock_8 {n : Nat} {t : Nat → Int} {k : zTk} {D : zD} {v : Int} (h : zNh n t k v) (hv : v = 5) (h8 : D.1 = 8) : zblock n t k D = .inl (5, k.1) := by
  unfold zblock
  rw [if_pos (zNh_5 h hv), if_pos h8]
theorem zblock_x {n : Nat} {t : Nat → Int} {k : zTk} {D : zD} {v : Int} (h : zNh n t k v) (hv : v = 5) (h8 : ¬ D.1 = 8) : (∀ e, (zbd (ztk n t k.2.1) fun k => zsm1 n t k) = .inl e → zblock n t k D = .inl e) ∧ ∀ k2, (zbd (ztk n t k.2.1) fun k => zsm1 n t k) = .inr k2 → zblock n t k D = zbd (zsteps n t 25 k2 D.2.2.1 D.2.2.2) (zbrest n t D) := by
  constructor
  · intro e he
    unfold zblock
    rw [if_pos (zNh_5 h hv), if_neg h8]
    cases q1 : ztk n t k.2.1 with
    | inl e1 =>
      rw [q1] at he
      exact congrArg Sum.inl (Sum.inl.inj he)
    | inr k1 =>
      rw [q1] at he
      have he : zsm1 n t k1 = .inl e := he
      show (zbd (zsm1 n t k1) fun k2 => _) = _
      exact zbd_l he
  · intro k2 hk
    obtain ⟨k1, q1, q2⟩ := zbd_i hk
    exact zblock_e (zNh_5 h hv) h8 q1 q2
theorem zsteps_no {n : Nat} {t : Nat → Int} {k : zTk} {v : Int} (h : zNh n t k v) (hv : ¬ (0 ≤ v ∧ v ≤ 1)) (f m : Nat) (S : Nat → Nat → Int) : zsteps n t f k m S = .inr (k, m, S) := by
  have e0 := zNh_w h (w := 0) (by omega)
  have e1 := zNh_w h (w := 1) (by omega)
  rw [zpw_n.1, decide_eq_false (by omega)] at e0
  rw [zpw_n.2.1, decide_eq_false (by omega)] at e1
  exact zsteps_n e0 e1 f
theorem zsteps_ye {n : Nat} {t : Nat → Int} {k : zTk} {v : Int} (h : zNh n t k v) (hv : 0 ≤ v ∧ v ≤ 1) {c m : Nat} (hc : c ≤ 24) (S : Nat → Nat → Int) : (v = 0 ∧ zwbb n t k zSET = true ∨ v = 1 ∧ zwbb n t k zSET = false) ∧ zsteps n t (25 - c) k m S = (if 24 ≤ m then .inl (5, k.1) else zbd (zstep n t k) fun r => zsteps n t (25 - (c + 1)) r.1 (m + 1) (fun i => if i = m then r.2 else S i)) := by
  have e0 := zNh_w h (w := 0) (by omega)
  have e1 := zNh_w h (w := 1) (by omega)
  rw [zpw_n.1] at e0
  rw [zpw_n.2.1] at e1
  rw [show 25 - c = (25 - (c + 1)) + 1 by omega]
  rcases (show v = 0 ∨ v = 1 by omega) with rfl | rfl
  · refine ⟨Or.inl ⟨rfl, e0⟩, ?_⟩
    have e0 : zwbb n t k zSET = true := e0
    rw [zsteps, if_pos (Or.inl e0)]
  · refine ⟨Or.inr ⟨rfl, e0⟩, ?_⟩
    have e1 : zwbb n t k zSAY = true := e1
    rw [zsteps, if_pos (Or.inr e1)]
set_option maxHeartbeats 4000000 in
set_option maxRecDepth 100000 in
/-- M.readBlock -/
theorem s_63 {h : zM} {n : Nat} {t : Nat → Int} (ht : zTq h n t) (hc : zWc h) {k : zTk} (hs : zMs h n (.inr k)) {D : zD} (hd : zDm h D) {Q : zQ} (hq : ∀ h2, zF zRe h h2 → zMs h2 n (zbd (zblock n t k D) fun r => .inr r.1) → (∀ r, zblock n t k D = .inr r → zDm h2 r.2) → Q none h2) : zR 63 [.inr (.inr 81)] h Q := by
  obtain ⟨d1, d2, d3, d4, d5, d6⟩ := hd
  have n320 := ht.2.1
  have hE : ∀ e h2, zblock n t k D = .inl e → zF zRe h h2 → zMs h2 n (.inl e) → Q none h2 := fun e h2 he hF hs => hq h2 hF (by rw [he]; exact hs) (fun r hr => by rw [he] at hr; cases hr)
  refine zx_met zk_63 (Or.inr ⟨_, _, rfl, rfl⟩) (Nat.le_of_ble_eq_true rfl) (fun x => Nat.beq x 49 || Nat.beq x 52) 1000 (fun m0 j L S0 h2 => (j = 49 ∧ S0 = [] ∧ ∃ q2 : Option zV, L = [some (.inr (.inr 81)), some (.inl (D.1 : Int)), q2] ∧ m0 = 100 ∧ D.1 < 8 ∧ ∃ (x : (Int × Nat) ⊕ zTk), zF zRe h h2 ∧ zBk h2 n t k D 0 x D.2.2.2 D.2.2.1) ∨
    (j = 52 ∧ S0 = [] ∧ ∃ v7 : Int, L = [some (.inr (.inr 81)), some (.inl (D.1 : Int)), some (.inl v7)] ∧ D.1 < 8 ∧ ∃ (x : (Int × Nat) ⊕ zTk) (c : Nat) (S : Nat → Nat → Int) (m : Nat), m0 = 50 - c ∧ c ≤ 25 ∧ zF zRe h h2 ∧ zBk h2 n t k D c x S m ∧ (∀ k2, x = .inr k2 → zNh n t k2 v7) ∧ (-4 ≤ v7 ∧ v7 < 10))) (fun hok hM => ?_) (fun hok hM => ?_)
  · refine s_55x ht hc hs (fun v hv hvb => ?_)
    constructor
    · intro c1
      refine And.intro (by show 0 ≤ _ ∧ _ < (708 : Int); omega) ?_
      constructor
      · intro c2
        obtain ⟨g4, gk, gb⟩ := hs.2 k rfl
        refine s_54k n320 g4 gk gb (by omega) (fun h2 hF2 hs2 _ => ?_)
        first
        | (exact hE _ _ (zblock_no (hv k rfl) (by omega)) (zRe_R hF2) hs2)
        | (exact hE _ _ (zblock_8 (hv k rfl) (by omega) (by omega)) (zRe_R hF2) hs2)
        | (obtain ⟨e, hx⟩ := zMs_e hs2 (by omega)
           subst hx
           exact hE e _ (g0 e rfl) hF hs2)
        | (obtain ⟨hi2, hz⟩ := g1 k2 rfl
           have na : ¬ (0 ≤ v7 ∧ v7 ≤ 1) := by omega
           rw [zsteps_no (hv k2 rfl) na] at hz
           have hz : zblock n t k D = zbrest n t D (k2, m, S) := hz
           unfold zbrest at hz
           rw [zbd_l (zendp_no (hv k2 rfl) a2)] at hz
           exact hE _ _ hz (hF.tr (zRe_R hF3)) hs3)
        | (have na : ¬ (0 ≤ v7 ∧ v7 ≤ 1) := by omega
           rw [zsteps_no (hv k2 rfl) na] at hz
           have hz : zblock n t k D = zbrest n t D (k2, m, S) := hz
           unfold zbrest at hz
           cases q1 : zendp n t k2 with
           | inl e =>
             rw [zbd_l q1] at hz
             exact hE _ _ hz (hF.tr hF3) (z0 e q1)
           | inr r =>
             obtain ⟨y1, y2, y3, y4, y5, y6⟩ := z1 r q1
             rw [zbd_r q1] at hz
             cases q2 : zsm1 n t r.1 with
             | inl e =>
               rw [zbd_l q2] at hz
               rw [q2] at y1
               exact hE _ _ hz (hF.tr hF3) y1
             | inr k3 =>
               rw [zbd_r q2] at hz
               rw [q2] at y1
               refine hq _ (hF.tr hF3) (by rw [hz]; exact y1) (fun r2 hr2 => ?_)
               rw [hz] at hr2
               have hr2 := Sum.inr.inj hr2
               subst hr2
               obtain ⟨a1, a2, a3, a4, a5, a6, a7, a8, a9⟩ := y2
               refine ⟨by rw [a1]; rfl, (by show D.1 + 1 ≤ 8; omega), fun p w hp hw => ?_, a6, a8, fun i w hi hw => a9 i w hi hw⟩
               have hp : p < D.1 + 1 := hp
               show _ = (if p = D.1 then _ else D.2.1 p) w
               by_cases ep : p = D.1
               · rw [if_pos ep, ep]
                 rcases (show w = 0 ∨ w = 1 ∨ w = 2 ∨ w = 3 ∨ w = 4 ∨ w = 5 by omega) with rfl | rfl | rfl | rfl | rfl | rfl
                 · rw [show 651 + 8 * ((0 : Nat) : Int) + (D.1 : Int) = 651 + (D.1 : Int) by omega]
                   exact a4
                 · rw [show 651 + 8 * ((1 : Nat) : Int) + (D.1 : Int) = 659 + (D.1 : Int) by omega]
                   refine a5.trans ?_
                   show (c : Int) = (m : Int) - (D.2.2.1 : Int)
                   omega
                 · rw [show 651 + 8 * ((2 : Nat) : Int) + (D.1 : Int) = 667 + (D.1 : Int) by omega]
                   exact y3
                 · rw [show 651 + 8 * ((3 : Nat) : Int) + (D.1 : Int) = 675 + (D.1 : Int) by omega]
                   exact y4
                 · rw [show 651 + 8 * ((4 : Nat) : Int) + (D.1 : Int) = 683 + (D.1 : Int) by omega]
                   exact y5
                 · rw [show 651 + 8 * ((5 : Nat) : Int) + (D.1 : Int) = 691 + (D.1 : Int) by omega]
                   exact y6
               · rw [if_neg ep]
                 exact a3 p w (by omega) hw)
        | (exfalso; omega)
      · intro c2
        refine s_56x ht hs (fun h2 hF2 hs2 => ?_)
        refine s_60x (ht.fr hF2) hs2 (fun h3 hF3 hs3 => ?_)
        refine And.intro (by first | omega | (rw [zst_ne (by omega), zst_ne (by omega), hF3 _ _ rfl, hF2 _ _ rfl]; omega) | (rw [zst_ne (by omega), hF3 _ _ rfl, hF2 _ _ rfl]; omega)) ?_
        refine And.intro (by show 0 ≤ _ ∧ _ < (708 : Int); omega) ?_
        refine And.intro (by show 0 ≤ _ ∧ _ < (708 : Int); omega) ?_
        refine And.intro (by first | omega | (rw [zst_ne (by omega), zst_ne (by omega), hF3 _ _ rfl, hF2 _ _ rfl]; omega) | (rw [zst_ne (by omega), hF3 _ _ rfl, hF2 _ _ rfl]; omega)) ?_
        refine And.intro (by show 0 ≤ _ ∧ _ < (708 : Int); omega) ?_
        refine And.intro (by show 0 ≤ _ ∧ _ < (708 : Int); omega) ?_
        refine And.intro (by first | omega | (rw [zst_ne (by omega), zst_ne (by omega), hF3 _ _ rfl, hF2 _ _ rfl]; omega) | (rw [zst_ne (by omega), hF3 _ _ rfl, hF2 _ _ rfl]; omega)) ?_
        refine And.intro (by show 0 ≤ _ ∧ _ < (708 : Int); omega) ?_
        have hF12 : zF zRm h h3 := hF2.tr hF3
        have e : ∀ j, h3 82 j = h 82 j := fun j => hF12 _ _ rfl
        have e706 := e 706
        have e707 := e 707
        have n8 : ¬ D.1 = 8 := by omega
        obtain ⟨x0, x1⟩ := zblock_x (D := D) (hv k rfl) (by omega) n8
        refine ⟨100, Or.inl ⟨rfl, rfl, none, ?_, rfl, by omega, _, (((zRe_R hF12).st (zRe_i (by omega))).st (zRe_i (by omega))).st (zRe_i (by omega)), ((hs3.st _ _).st _ _).st _ _, x0, fun k2 hk2 => ⟨?_, x1 k2 hk2⟩⟩⟩
        · rw [← d1]; rfl
        · refine ⟨?_, by omega, fun p w hp hw => ?_, ?_, ?_, ?_, rfl, d5, fun i w hi hw => ?_⟩
          · rw [zst_eq]
            first
            | omega
            | (rw [zst_ne (by omega), zst_ne (by omega)]; omega)
          · rw [zst_ne (by omega), zst_ne (by omega), zst_ne (by omega), e]
            exact d3 p w hp hw
          · rw [zst_ne (by omega), zst_ne (by omega), d1, zst_eq]
            omega
          · rw [zst_ne (by omega), d1, zst_eq]
            rfl
          · rw [zst_ne (by omega), zst_ne (by omega), zst_ne (by omega)]
            omega
          · rw [zst_ne (by omega), zst_ne (by omega), zst_ne (by omega), e]
            exact d6 i w hi hw
    · intro c1
      obtain ⟨g4, gk, gb⟩ := hs.2 k rfl
      refine s_54k n320 g4 gk gb (by omega) (fun h2 hF2 hs2 _ => ?_)
      first
      | (exact hE _ _ (zblock_no (hv k rfl) (by omega)) (zRe_R hF2) hs2)
      | (exact hE _ _ (zblock_8 (hv k rfl) (by omega) (by omega)) (zRe_R hF2) hs2)
      | (obtain ⟨e, hx⟩ := zMs_e hs2 (by omega)
         subst hx
         exact hE e _ (g0 e rfl) hF hs2)
      | (obtain ⟨hi2, hz⟩ := g1 k2 rfl
         have na : ¬ (0 ≤ v7 ∧ v7 ≤ 1) := by omega
         rw [zsteps_no (hv k2 rfl) na] at hz
         have hz : zblock n t k D = zbrest n t D (k2, m, S) := hz
         unfold zbrest at hz
         rw [zbd_l (zendp_no (hv k2 rfl) a2)] at hz
         exact hE _ _ hz (hF.tr (zRe_R hF3)) hs3)
      | (have na : ¬ (0 ≤ v7 ∧ v7 ≤ 1) := by omega
         rw [zsteps_no (hv k2 rfl) na] at hz
         have hz : zblock n t k D = zbrest n t D (k2, m, S) := hz
         unfold zbrest at hz
         cases q1 : zendp n t k2 with
         | inl e =>
           rw [zbd_l q1] at hz
           exact hE _ _ hz (hF.tr hF3) (z0 e q1)
         | inr r =>
           obtain ⟨y1, y2, y3, y4, y5, y6⟩ := z1 r q1
           rw [zbd_r q1] at hz
           cases q2 : zsm1 n t r.1 with
           | inl e =>
             rw [zbd_l q2] at hz
             rw [q2] at y1
             exact hE _ _ hz (hF.tr hF3) y1
           | inr k3 =>
             rw [zbd_r q2] at hz
             rw [q2] at y1
             refine hq _ (hF.tr hF3) (by rw [hz]; exact y1) (fun r2 hr2 => ?_)
             rw [hz] at hr2
             have hr2 := Sum.inr.inj hr2
             subst hr2
             obtain ⟨a1, a2, a3, a4, a5, a6, a7, a8, a9⟩ := y2
             refine ⟨by rw [a1]; rfl, (by show D.1 + 1 ≤ 8; omega), fun p w hp hw => ?_, a6, a8, fun i w hi hw => a9 i w hi hw⟩
             have hp : p < D.1 + 1 := hp
             show _ = (if p = D.1 then _ else D.2.1 p) w
             by_cases ep : p = D.1
             · rw [if_pos ep, ep]
               rcases (show w = 0 ∨ w = 1 ∨ w = 2 ∨ w = 3 ∨ w = 4 ∨ w = 5 by omega) with rfl | rfl | rfl | rfl | rfl | rfl
               · rw [show 651 + 8 * ((0 : Nat) : Int) + (D.1 : Int) = 651 + (D.1 : Int) by omega]
                 exact a4
               · rw [show 651 + 8 * ((1 : Nat) : Int) + (D.1 : Int) = 659 + (D.1 : Int) by omega]
                 refine a5.trans ?_
                 show (c : Int) = (m : Int) - (D.2.2.1 : Int)
                 omega
               · rw [show 651 + 8 * ((2 : Nat) : Int) + (D.1 : Int) = 667 + (D.1 : Int) by omega]
                 exact y3
               · rw [show 651 + 8 * ((3 : Nat) : Int) + (D.1 : Int) = 675 + (D.1 : Int) by omega]
                 exact y4
               · rw [show 651 + 8 * ((4 : Nat) : Int) + (D.1 : Int) = 683 + (D.1 : Int) by omega]
                 exact y5
               · rw [show 651 + 8 * ((5 : Nat) : Int) + (D.1 : Int) = 691 + (D.1 : Int) by omega]
                 exact y6
             · rw [if_neg ep]
               exact a3 p w (by omega) hw)
      | (exfalso; omega)
  · rintro n0 i0 L S h2 hM2 (hI | hI)
    · obtain ⟨rfl, rfl, q2, rfl, hm0, h8, x, hF, hs2, g0, g1⟩ := hI
      have ht2 := ht.E hF
      have hc2 := hc.E hF
      refine s_55x ht2 hc2 hs2 (fun v hv hvb => ?_)
      first
      | (exact ⟨50, by omega, Or.inr ⟨rfl, rfl, v, rfl, h8, x, 0, _, _, rfl, by omega, hF, ⟨hs2, g0, g1⟩, hv, hvb⟩⟩)
      | (rw [if_pos (by omega)] at hz
         exact ⟨50 - (c + 1), by omega, Or.inr ⟨rfl, rfl, v, rfl, h8, _, c + 1, S, m, rfl, by omega, hF.tr hF3, ⟨hs3, (fun e2 q => by cases q; exact hz), (fun k3 q => by cases q)⟩, hv3, hvb3⟩⟩)
      | (rw [if_neg (by omega), zbd_l (zbd_l he)] at hz
         exact ⟨50 - (c + 1), by omega, Or.inr ⟨rfl, rfl, v, rfl, h8, _, c + 1, S, m, rfl, by omega, hF.tr hF3, ⟨hs3, (fun e2 q => by cases q; exact hz), (fun k3 q => by cases q)⟩, hv3, hvb3⟩⟩)
      | (rw [if_neg (by omega), zbd_r hr] at hz
         exact ⟨50 - (c + 1), by omega, Or.inr ⟨rfl, rfl, v, rfl, h8, _, c + 1, _, _, rfl, by omega, hF.tr hF3, ⟨hs3, (fun e2 q => by cases q), (fun k3 q => by cases q; exact ⟨hi3, hz⟩)⟩, hv3, hvb3⟩⟩)
    · obtain ⟨rfl, rfl, v7, rfl, h8, x, c, S, m, hm0, hc25, hF, ⟨hs2, g0, g1⟩, hv, hvb⟩ := hI
      have ht2 := ht.E hF
      have hc2 := hc.E hF
      constructor
      · intro c3
        refine s_50 (fun a1 => ?_) (fun a1 => ?_)
        · refine And.intro (fun c => absurd c (by decide)) (fun _ => ?_)
          obtain ⟨k2, hx⟩ := zMs_i hs2 (by omega)
          subst hx
          obtain ⟨hi2, hz⟩ := g1 k2 rfl
          have c24 : c ≤ 24 := by
            have := hi2.2.2.2.2.2.2.1
            have := hi2.2.2.2.2.2.2.2.1
            omega
          obtain ⟨hkd, hzs⟩ := zsteps_ye (hv k2 rfl) a1 c24 (m := m) S
          rw [hzs] at hz
          refine s_61 ht2 hc2 hs2 hi2 hkd (fun m24 h3 hF3 hs3 => ?_) (fun m24 e he h3 hF3 hs3 => ?_) (fun m24 r hr h3 hF3 hs3 hi3 => ?_)
          · refine s_55x (ht2.E hF3) (hc2.E hF3) hs3 (fun v hv3 hvb3 => ?_)
            first
            | (exact ⟨50, by omega, Or.inr ⟨rfl, rfl, v, rfl, h8, x, 0, _, _, rfl, by omega, hF, ⟨hs2, g0, g1⟩, hv, hvb⟩⟩)
            | (rw [if_pos (by omega)] at hz
               exact ⟨50 - (c + 1), by omega, Or.inr ⟨rfl, rfl, v, rfl, h8, _, c + 1, S, m, rfl, by omega, hF.tr hF3, ⟨hs3, (fun e2 q => by cases q; exact hz), (fun k3 q => by cases q)⟩, hv3, hvb3⟩⟩)
            | (rw [if_neg (by omega), zbd_l (zbd_l he)] at hz
               exact ⟨50 - (c + 1), by omega, Or.inr ⟨rfl, rfl, v, rfl, h8, _, c + 1, S, m, rfl, by omega, hF.tr hF3, ⟨hs3, (fun e2 q => by cases q; exact hz), (fun k3 q => by cases q)⟩, hv3, hvb3⟩⟩)
            | (rw [if_neg (by omega), zbd_r hr] at hz
               exact ⟨50 - (c + 1), by omega, Or.inr ⟨rfl, rfl, v, rfl, h8, _, c + 1, _, _, rfl, by omega, hF.tr hF3, ⟨hs3, (fun e2 q => by cases q), (fun k3 q => by cases q; exact ⟨hi3, hz⟩)⟩, hv3, hvb3⟩⟩)
          · refine s_55x (ht2.E hF3) (hc2.E hF3) hs3 (fun v hv3 hvb3 => ?_)
            first
            | (exact ⟨50, by omega, Or.inr ⟨rfl, rfl, v, rfl, h8, x, 0, _, _, rfl, by omega, hF, ⟨hs2, g0, g1⟩, hv, hvb⟩⟩)
            | (rw [if_pos (by omega)] at hz
               exact ⟨50 - (c + 1), by omega, Or.inr ⟨rfl, rfl, v, rfl, h8, _, c + 1, S, m, rfl, by omega, hF.tr hF3, ⟨hs3, (fun e2 q => by cases q; exact hz), (fun k3 q => by cases q)⟩, hv3, hvb3⟩⟩)
            | (rw [if_neg (by omega), zbd_l (zbd_l he)] at hz
               exact ⟨50 - (c + 1), by omega, Or.inr ⟨rfl, rfl, v, rfl, h8, _, c + 1, S, m, rfl, by omega, hF.tr hF3, ⟨hs3, (fun e2 q => by cases q; exact hz), (fun k3 q => by cases q)⟩, hv3, hvb3⟩⟩)
            | (rw [if_neg (by omega), zbd_r hr] at hz
               exact ⟨50 - (c + 1), by omega, Or.inr ⟨rfl, rfl, v, rfl, h8, _, c + 1, _, _, rfl, by omega, hF.tr hF3, ⟨hs3, (fun e2 q => by cases q), (fun k3 q => by cases q; exact ⟨hi3, hz⟩)⟩, hv3, hvb3⟩⟩)
          · refine s_55x (ht2.E hF3) (hc2.E hF3) hs3 (fun v hv3 hvb3 => ?_)
            first
            | (exact ⟨50, by omega, Or.inr ⟨rfl, rfl, v, rfl, h8, x, 0, _, _, rfl, by omega, hF, ⟨hs2, g0, g1⟩, hv, hvb⟩⟩)
            | (rw [if_pos (by omega)] at hz
               exact ⟨50 - (c + 1), by omega, Or.inr ⟨rfl, rfl, v, rfl, h8, _, c + 1, S, m, rfl, by omega, hF.tr hF3, ⟨hs3, (fun e2 q => by cases q; exact hz), (fun k3 q => by cases q)⟩, hv3, hvb3⟩⟩)
            | (rw [if_neg (by omega), zbd_l (zbd_l he)] at hz
               exact ⟨50 - (c + 1), by omega, Or.inr ⟨rfl, rfl, v, rfl, h8, _, c + 1, S, m, rfl, by omega, hF.tr hF3, ⟨hs3, (fun e2 q => by cases q; exact hz), (fun k3 q => by cases q)⟩, hv3, hvb3⟩⟩)
            | (rw [if_neg (by omega), zbd_r hr] at hz
               exact ⟨50 - (c + 1), by omega, Or.inr ⟨rfl, rfl, v, rfl, h8, _, c + 1, _, _, rfl, by omega, hF.tr hF3, ⟨hs3, (fun e2 q => by cases q), (fun k3 q => by cases q; exact ⟨hi3, hz⟩)⟩, hv3, hvb3⟩⟩)
        · refine And.intro (fun _ => ?_) (fun c => absurd (by decide) c)
          constructor
          · intro c4
            refine s_50 (fun a2 => ?_) (fun a2 => ?_)
            · refine And.intro (fun c => absurd c (by decide)) (fun _ => ?_)
              constructor
              · intro c5
                first
                | (have f : False := by omega
                   refine False.elim ?_)
                | (obtain ⟨k2, hx⟩ := zMs_i hs2 (by omega)
                   subst hx
                   obtain ⟨hi2, hz⟩ := g1 k2 rfl
                   refine s_62 ht2 hc2 hs2 hi2 (hv k2 rfl) (by omega) (fun h3 hF3 z0 z1 => ?_))
                first
                | (exact hE _ _ (zblock_no (hv k rfl) (by omega)) (zRe_R hF2) hs2)
                | (exact hE _ _ (zblock_8 (hv k rfl) (by omega) (by omega)) (zRe_R hF2) hs2)
                | (obtain ⟨e, hx⟩ := zMs_e hs2 (by omega)
                   subst hx
                   exact hE e _ (g0 e rfl) hF hs2)
                | (obtain ⟨hi2, hz⟩ := g1 k2 rfl
                   have na : ¬ (0 ≤ v7 ∧ v7 ≤ 1) := by omega
                   rw [zsteps_no (hv k2 rfl) na] at hz
                   have hz : zblock n t k D = zbrest n t D (k2, m, S) := hz
                   unfold zbrest at hz
                   rw [zbd_l (zendp_no (hv k2 rfl) a2)] at hz
                   exact hE _ _ hz (hF.tr (zRe_R hF3)) hs3)
                | (have na : ¬ (0 ≤ v7 ∧ v7 ≤ 1) := by omega
                   rw [zsteps_no (hv k2 rfl) na] at hz
                   have hz : zblock n t k D = zbrest n t D (k2, m, S) := hz
                   unfold zbrest at hz
                   cases q1 : zendp n t k2 with
                   | inl e =>
                     rw [zbd_l q1] at hz
                     exact hE _ _ hz (hF.tr hF3) (z0 e q1)
                   | inr r =>
                     obtain ⟨y1, y2, y3, y4, y5, y6⟩ := z1 r q1
                     rw [zbd_r q1] at hz
                     cases q2 : zsm1 n t r.1 with
                     | inl e =>
                       rw [zbd_l q2] at hz
                       rw [q2] at y1
                       exact hE _ _ hz (hF.tr hF3) y1
                     | inr k3 =>
                       rw [zbd_r q2] at hz
                       rw [q2] at y1
                       refine hq _ (hF.tr hF3) (by rw [hz]; exact y1) (fun r2 hr2 => ?_)
                       rw [hz] at hr2
                       have hr2 := Sum.inr.inj hr2
                       subst hr2
                       obtain ⟨a1, a2, a3, a4, a5, a6, a7, a8, a9⟩ := y2
                       refine ⟨by rw [a1]; rfl, (by show D.1 + 1 ≤ 8; omega), fun p w hp hw => ?_, a6, a8, fun i w hi hw => a9 i w hi hw⟩
                       have hp : p < D.1 + 1 := hp
                       show _ = (if p = D.1 then _ else D.2.1 p) w
                       by_cases ep : p = D.1
                       · rw [if_pos ep, ep]
                         rcases (show w = 0 ∨ w = 1 ∨ w = 2 ∨ w = 3 ∨ w = 4 ∨ w = 5 by omega) with rfl | rfl | rfl | rfl | rfl | rfl
                         · rw [show 651 + 8 * ((0 : Nat) : Int) + (D.1 : Int) = 651 + (D.1 : Int) by omega]
                           exact a4
                         · rw [show 651 + 8 * ((1 : Nat) : Int) + (D.1 : Int) = 659 + (D.1 : Int) by omega]
                           refine a5.trans ?_
                           show (c : Int) = (m : Int) - (D.2.2.1 : Int)
                           omega
                         · rw [show 651 + 8 * ((2 : Nat) : Int) + (D.1 : Int) = 667 + (D.1 : Int) by omega]
                           exact y3
                         · rw [show 651 + 8 * ((3 : Nat) : Int) + (D.1 : Int) = 675 + (D.1 : Int) by omega]
                           exact y4
                         · rw [show 651 + 8 * ((4 : Nat) : Int) + (D.1 : Int) = 683 + (D.1 : Int) by omega]
                           exact y5
                         · rw [show 651 + 8 * ((5 : Nat) : Int) + (D.1 : Int) = 691 + (D.1 : Int) by omega]
                           exact y6
                       · rw [if_neg ep]
                         exact a3 p w (by omega) hw)
                | (exfalso; omega)
              · intro c5
                first
                | (exact hE _ _ (zblock_no (hv k rfl) (by omega)) (zRe_R hF2) hs2)
                | (exact hE _ _ (zblock_8 (hv k rfl) (by omega) (by omega)) (zRe_R hF2) hs2)
                | (obtain ⟨e, hx⟩ := zMs_e hs2 (by omega)
                   subst hx
                   exact hE e _ (g0 e rfl) hF hs2)
                | (obtain ⟨hi2, hz⟩ := g1 k2 rfl
                   have na : ¬ (0 ≤ v7 ∧ v7 ≤ 1) := by omega
                   rw [zsteps_no (hv k2 rfl) na] at hz
                   have hz : zblock n t k D = zbrest n t D (k2, m, S) := hz
                   unfold zbrest at hz
                   rw [zbd_l (zendp_no (hv k2 rfl) a2)] at hz
                   exact hE _ _ hz (hF.tr (zRe_R hF3)) hs3)
                | (have na : ¬ (0 ≤ v7 ∧ v7 ≤ 1) := by omega
                   rw [zsteps_no (hv k2 rfl) na] at hz
                   have hz : zblock n t k D = zbrest n t D (k2, m, S) := hz
                   unfold zbrest at hz
                   cases q1 : zendp n t k2 with
                   | inl e =>
                     rw [zbd_l q1] at hz
                     exact hE _ _ hz (hF.tr hF3) (z0 e q1)
                   | inr r =>
                     obtain ⟨y1, y2, y3, y4, y5, y6⟩ := z1 r q1
                     rw [zbd_r q1] at hz
                     cases q2 : zsm1 n t r.1 with
                     | inl e =>
                       rw [zbd_l q2] at hz
                       rw [q2] at y1
                       exact hE _ _ hz (hF.tr hF3) y1
                     | inr k3 =>
                       rw [zbd_r q2] at hz
                       rw [q2] at y1
                       refine hq _ (hF.tr hF3) (by rw [hz]; exact y1) (fun r2 hr2 => ?_)
                       rw [hz] at hr2
                       have hr2 := Sum.inr.inj hr2
                       subst hr2
                       obtain ⟨a1, a2, a3, a4, a5, a6, a7, a8, a9⟩ := y2
                       refine ⟨by rw [a1]; rfl, (by show D.1 + 1 ≤ 8; omega), fun p w hp hw => ?_, a6, a8, fun i w hi hw => a9 i w hi hw⟩
                       have hp : p < D.1 + 1 := hp
                       show _ = (if p = D.1 then _ else D.2.1 p) w
                       by_cases ep : p = D.1
                       · rw [if_pos ep, ep]
                         rcases (show w = 0 ∨ w = 1 ∨ w = 2 ∨ w = 3 ∨ w = 4 ∨ w = 5 by omega) with rfl | rfl | rfl | rfl | rfl | rfl
                         · rw [show 651 + 8 * ((0 : Nat) : Int) + (D.1 : Int) = 651 + (D.1 : Int) by omega]
                           exact a4
                         · rw [show 651 + 8 * ((1 : Nat) : Int) + (D.1 : Int) = 659 + (D.1 : Int) by omega]
                           refine a5.trans ?_
                           show (c : Int) = (m : Int) - (D.2.2.1 : Int)
                           omega
                         · rw [show 651 + 8 * ((2 : Nat) : Int) + (D.1 : Int) = 667 + (D.1 : Int) by omega]
                           exact y3
                         · rw [show 651 + 8 * ((3 : Nat) : Int) + (D.1 : Int) = 675 + (D.1 : Int) by omega]
                           exact y4
                         · rw [show 651 + 8 * ((4 : Nat) : Int) + (D.1 : Int) = 683 + (D.1 : Int) by omega]
                           exact y5
                         · rw [show 651 + 8 * ((5 : Nat) : Int) + (D.1 : Int) = 691 + (D.1 : Int) by omega]
                           exact y6
                       · rw [if_neg ep]
                         exact a3 p w (by omega) hw)
                | (exfalso; omega)
            · refine And.intro (fun _ => ?_) (fun c => absurd (by decide) c)
              obtain ⟨k2, hx⟩ := zMs_i hs2 (by omega)
              subst hx
              obtain ⟨g4, gk, gb⟩ := hs2.2 k2 rfl
              refine s_54k n320 g4 gk gb (by omega) (fun h3 hF3 hs3 g3 => ?_)
              constructor
              · intro c6
                first
                | (have f : False := by omega
                   refine False.elim ?_)
                | (obtain ⟨k2, hx⟩ := zMs_i hs2 (by omega)
                   subst hx
                   obtain ⟨hi2, hz⟩ := g1 k2 rfl
                   refine s_62 ht2 hc2 hs2 hi2 (hv k2 rfl) (by omega) (fun h3 hF3 z0 z1 => ?_))
                first
                | (exact hE _ _ (zblock_no (hv k rfl) (by omega)) (zRe_R hF2) hs2)
                | (exact hE _ _ (zblock_8 (hv k rfl) (by omega) (by omega)) (zRe_R hF2) hs2)
                | (obtain ⟨e, hx⟩ := zMs_e hs2 (by omega)
                   subst hx
                   exact hE e _ (g0 e rfl) hF hs2)
                | (obtain ⟨hi2, hz⟩ := g1 k2 rfl
                   have na : ¬ (0 ≤ v7 ∧ v7 ≤ 1) := by omega
                   rw [zsteps_no (hv k2 rfl) na] at hz
                   have hz : zblock n t k D = zbrest n t D (k2, m, S) := hz
                   unfold zbrest at hz
                   rw [zbd_l (zendp_no (hv k2 rfl) a2)] at hz
                   exact hE _ _ hz (hF.tr (zRe_R hF3)) hs3)
                | (have na : ¬ (0 ≤ v7 ∧ v7 ≤ 1) := by omega
                   rw [zsteps_no (hv k2 rfl) na] at hz
                   have hz : zblock n t k D = zbrest n t D (k2, m, S) := hz
                   unfold zbrest at hz
                   cases q1 : zendp n t k2 with
                   | inl e =>
                     rw [zbd_l q1] at hz
                     exact hE _ _ hz (hF.tr hF3) (z0 e q1)
                   | inr r =>
                     obtain ⟨y1, y2, y3, y4, y5, y6⟩ := z1 r q1
                     rw [zbd_r q1] at hz
                     cases q2 : zsm1 n t r.1 with
                     | inl e =>
                       rw [zbd_l q2] at hz
                       rw [q2] at y1
                       exact hE _ _ hz (hF.tr hF3) y1
                     | inr k3 =>
                       rw [zbd_r q2] at hz
                       rw [q2] at y1
                       refine hq _ (hF.tr hF3) (by rw [hz]; exact y1) (fun r2 hr2 => ?_)
                       rw [hz] at hr2
                       have hr2 := Sum.inr.inj hr2
                       subst hr2
                       obtain ⟨a1, a2, a3, a4, a5, a6, a7, a8, a9⟩ := y2
                       refine ⟨by rw [a1]; rfl, (by show D.1 + 1 ≤ 8; omega), fun p w hp hw => ?_, a6, a8, fun i w hi hw => a9 i w hi hw⟩
                       have hp : p < D.1 + 1 := hp
                       show _ = (if p = D.1 then _ else D.2.1 p) w
                       by_cases ep : p = D.1
                       · rw [if_pos ep, ep]
                         rcases (show w = 0 ∨ w = 1 ∨ w = 2 ∨ w = 3 ∨ w = 4 ∨ w = 5 by omega) with rfl | rfl | rfl | rfl | rfl | rfl
                         · rw [show 651 + 8 * ((0 : Nat) : Int) + (D.1 : Int) = 651 + (D.1 : Int) by omega]
                           exact a4
                         · rw [show 651 + 8 * ((1 : Nat) : Int) + (D.1 : Int) = 659 + (D.1 : Int) by omega]
                           refine a5.trans ?_
                           show (c : Int) = (m : Int) - (D.2.2.1 : Int)
                           omega
                         · rw [show 651 + 8 * ((2 : Nat) : Int) + (D.1 : Int) = 667 + (D.1 : Int) by omega]
                           exact y3
                         · rw [show 651 + 8 * ((3 : Nat) : Int) + (D.1 : Int) = 675 + (D.1 : Int) by omega]
                           exact y4
                         · rw [show 651 + 8 * ((4 : Nat) : Int) + (D.1 : Int) = 683 + (D.1 : Int) by omega]
                           exact y5
                         · rw [show 651 + 8 * ((5 : Nat) : Int) + (D.1 : Int) = 691 + (D.1 : Int) by omega]
                           exact y6
                       · rw [if_neg ep]
                         exact a3 p w (by omega) hw)
                | (exfalso; omega)
              · intro c6
                first
                | (exact hE _ _ (zblock_no (hv k rfl) (by omega)) (zRe_R hF2) hs2)
                | (exact hE _ _ (zblock_8 (hv k rfl) (by omega) (by omega)) (zRe_R hF2) hs2)
                | (obtain ⟨e, hx⟩ := zMs_e hs2 (by omega)
                   subst hx
                   exact hE e _ (g0 e rfl) hF hs2)
                | (obtain ⟨hi2, hz⟩ := g1 k2 rfl
                   have na : ¬ (0 ≤ v7 ∧ v7 ≤ 1) := by omega
                   rw [zsteps_no (hv k2 rfl) na] at hz
                   have hz : zblock n t k D = zbrest n t D (k2, m, S) := hz
                   unfold zbrest at hz
                   rw [zbd_l (zendp_no (hv k2 rfl) a2)] at hz
                   exact hE _ _ hz (hF.tr (zRe_R hF3)) hs3)
                | (have na : ¬ (0 ≤ v7 ∧ v7 ≤ 1) := by omega
                   rw [zsteps_no (hv k2 rfl) na] at hz
                   have hz : zblock n t k D = zbrest n t D (k2, m, S) := hz
                   unfold zbrest at hz
                   cases q1 : zendp n t k2 with
                   | inl e =>
                     rw [zbd_l q1] at hz
                     exact hE _ _ hz (hF.tr hF3) (z0 e q1)
                   | inr r =>
                     obtain ⟨y1, y2, y3, y4, y5, y6⟩ := z1 r q1
                     rw [zbd_r q1] at hz
                     cases q2 : zsm1 n t r.1 with
                     | inl e =>
                       rw [zbd_l q2] at hz
                       rw [q2] at y1
                       exact hE _ _ hz (hF.tr hF3) y1
                     | inr k3 =>
                       rw [zbd_r q2] at hz
                       rw [q2] at y1
                       refine hq _ (hF.tr hF3) (by rw [hz]; exact y1) (fun r2 hr2 => ?_)
                       rw [hz] at hr2
                       have hr2 := Sum.inr.inj hr2
                       subst hr2
                       obtain ⟨a1, a2, a3, a4, a5, a6, a7, a8, a9⟩ := y2
                       refine ⟨by rw [a1]; rfl, (by show D.1 + 1 ≤ 8; omega), fun p w hp hw => ?_, a6, a8, fun i w hi hw => a9 i w hi hw⟩
                       have hp : p < D.1 + 1 := hp
                       show _ = (if p = D.1 then _ else D.2.1 p) w
                       by_cases ep : p = D.1
                       · rw [if_pos ep, ep]
                         rcases (show w = 0 ∨ w = 1 ∨ w = 2 ∨ w = 3 ∨ w = 4 ∨ w = 5 by omega) with rfl | rfl | rfl | rfl | rfl | rfl
                         · rw [show 651 + 8 * ((0 : Nat) : Int) + (D.1 : Int) = 651 + (D.1 : Int) by omega]
                           exact a4
                         · rw [show 651 + 8 * ((1 : Nat) : Int) + (D.1 : Int) = 659 + (D.1 : Int) by omega]
                           refine a5.trans ?_
                           show (c : Int) = (m : Int) - (D.2.2.1 : Int)
                           omega
                         · rw [show 651 + 8 * ((2 : Nat) : Int) + (D.1 : Int) = 667 + (D.1 : Int) by omega]
                           exact y3
                         · rw [show 651 + 8 * ((3 : Nat) : Int) + (D.1 : Int) = 675 + (D.1 : Int) by omega]
                           exact y4
                         · rw [show 651 + 8 * ((4 : Nat) : Int) + (D.1 : Int) = 683 + (D.1 : Int) by omega]
                           exact y5
                         · rw [show 651 + 8 * ((5 : Nat) : Int) + (D.1 : Int) = 691 + (D.1 : Int) by omega]
                           exact y6
                       · rw [if_neg ep]
                         exact a3 p w (by omega) hw)
                | (exfalso; omega)
          · intro c4
            constructor
            · intro c7
              first
              | (have f : False := by omega
                 refine False.elim ?_)
              | (obtain ⟨k2, hx⟩ := zMs_i hs2 (by omega)
                 subst hx
                 obtain ⟨hi2, hz⟩ := g1 k2 rfl
                 refine s_62 ht2 hc2 hs2 hi2 (hv k2 rfl) (by omega) (fun h3 hF3 z0 z1 => ?_))
              first
              | (exact hE _ _ (zblock_no (hv k rfl) (by omega)) (zRe_R hF2) hs2)
              | (exact hE _ _ (zblock_8 (hv k rfl) (by omega) (by omega)) (zRe_R hF2) hs2)
              | (obtain ⟨e, hx⟩ := zMs_e hs2 (by omega)
                 subst hx
                 exact hE e _ (g0 e rfl) hF hs2)
              | (obtain ⟨hi2, hz⟩ := g1 k2 rfl
                 have na : ¬ (0 ≤ v7 ∧ v7 ≤ 1) := by omega
                 rw [zsteps_no (hv k2 rfl) na] at hz
                 have hz : zblock n t k D = zbrest n t D (k2, m, S) := hz
                 unfold zbrest at hz
                 rw [zbd_l (zendp_no (hv k2 rfl) a2)] at hz
                 exact hE _ _ hz (hF.tr (zRe_R hF3)) hs3)
              | (have na : ¬ (0 ≤ v7 ∧ v7 ≤ 1) := by omega
                 rw [zsteps_no (hv k2 rfl) na] at hz
                 have hz : zblock n t k D = zbrest n t D (k2, m, S) := hz
                 unfold zbrest at hz
                 cases q1 : zendp n t k2 with
                 | inl e =>
                   rw [zbd_l q1] at hz
                   exact hE _ _ hz (hF.tr hF3) (z0 e q1)
                 | inr r =>
                   obtain ⟨y1, y2, y3, y4, y5, y6⟩ := z1 r q1
                   rw [zbd_r q1] at hz
                   cases q2 : zsm1 n t r.1 with
                   | inl e =>
                     rw [zbd_l q2] at hz
                     rw [q2] at y1
                     exact hE _ _ hz (hF.tr hF3) y1
                   | inr k3 =>
                     rw [zbd_r q2] at hz
                     rw [q2] at y1
                     refine hq _ (hF.tr hF3) (by rw [hz]; exact y1) (fun r2 hr2 => ?_)
                     rw [hz] at hr2
                     have hr2 := Sum.inr.inj hr2
                     subst hr2
                     obtain ⟨a1, a2, a3, a4, a5, a6, a7, a8, a9⟩ := y2
                     refine ⟨by rw [a1]; rfl, (by show D.1 + 1 ≤ 8; omega), fun p w hp hw => ?_, a6, a8, fun i w hi hw => a9 i w hi hw⟩
                     have hp : p < D.1 + 1 := hp
                     show _ = (if p = D.1 then _ else D.2.1 p) w
                     by_cases ep : p = D.1
                     · rw [if_pos ep, ep]
                       rcases (show w = 0 ∨ w = 1 ∨ w = 2 ∨ w = 3 ∨ w = 4 ∨ w = 5 by omega) with rfl | rfl | rfl | rfl | rfl | rfl
                       · rw [show 651 + 8 * ((0 : Nat) : Int) + (D.1 : Int) = 651 + (D.1 : Int) by omega]
                         exact a4
                       · rw [show 651 + 8 * ((1 : Nat) : Int) + (D.1 : Int) = 659 + (D.1 : Int) by omega]
                         refine a5.trans ?_
                         show (c : Int) = (m : Int) - (D.2.2.1 : Int)
                         omega
                       · rw [show 651 + 8 * ((2 : Nat) : Int) + (D.1 : Int) = 667 + (D.1 : Int) by omega]
                         exact y3
                       · rw [show 651 + 8 * ((3 : Nat) : Int) + (D.1 : Int) = 675 + (D.1 : Int) by omega]
                         exact y4
                       · rw [show 651 + 8 * ((4 : Nat) : Int) + (D.1 : Int) = 683 + (D.1 : Int) by omega]
                         exact y5
                       · rw [show 651 + 8 * ((5 : Nat) : Int) + (D.1 : Int) = 691 + (D.1 : Int) by omega]
                         exact y6
                     · rw [if_neg ep]
                       exact a3 p w (by omega) hw)
              | (exfalso; omega)
            · intro c7
              first
              | (exact hE _ _ (zblock_no (hv k rfl) (by omega)) (zRe_R hF2) hs2)
              | (exact hE _ _ (zblock_8 (hv k rfl) (by omega) (by omega)) (zRe_R hF2) hs2)
              | (obtain ⟨e, hx⟩ := zMs_e hs2 (by omega)
                 subst hx
                 exact hE e _ (g0 e rfl) hF hs2)
              | (obtain ⟨hi2, hz⟩ := g1 k2 rfl
                 have na : ¬ (0 ≤ v7 ∧ v7 ≤ 1) := by omega
                 rw [zsteps_no (hv k2 rfl) na] at hz
                 have hz : zblock n t k D = zbrest n t D (k2, m, S) := hz
                 unfold zbrest at hz
                 rw [zbd_l (zendp_no (hv k2 rfl) a2)] at hz
                 exact hE _ _ hz (hF.tr (zRe_R hF3)) hs3)
              | (have na : ¬ (0 ≤ v7 ∧ v7 ≤ 1) := by omega
                 rw [zsteps_no (hv k2 rfl) na] at hz
                 have hz : zblock n t k D = zbrest n t D (k2, m, S) := hz
                 unfold zbrest at hz
                 cases q1 : zendp n t k2 with
                 | inl e =>
                   rw [zbd_l q1] at hz
                   exact hE _ _ hz (hF.tr hF3) (z0 e q1)
                 | inr r =>
                   obtain ⟨y1, y2, y3, y4, y5, y6⟩ := z1 r q1
                   rw [zbd_r q1] at hz
                   cases q2 : zsm1 n t r.1 with
                   | inl e =>
                     rw [zbd_l q2] at hz
                     rw [q2] at y1
                     exact hE _ _ hz (hF.tr hF3) y1
                   | inr k3 =>
                     rw [zbd_r q2] at hz
                     rw [q2] at y1
                     refine hq _ (hF.tr hF3) (by rw [hz]; exact y1) (fun r2 hr2 => ?_)
                     rw [hz] at hr2
                     have hr2 := Sum.inr.inj hr2
                     subst hr2
                     obtain ⟨a1, a2, a3, a4, a5, a6, a7, a8, a9⟩ := y2
                     refine ⟨by rw [a1]; rfl, (by show D.1 + 1 ≤ 8; omega), fun p w hp hw => ?_, a6, a8, fun i w hi hw => a9 i w hi hw⟩
                     have hp : p < D.1 + 1 := hp
                     show _ = (if p = D.1 then _ else D.2.1 p) w
                     by_cases ep : p = D.1
                     · rw [if_pos ep, ep]
                       rcases (show w = 0 ∨ w = 1 ∨ w = 2 ∨ w = 3 ∨ w = 4 ∨ w = 5 by omega) with rfl | rfl | rfl | rfl | rfl | rfl
                       · rw [show 651 + 8 * ((0 : Nat) : Int) + (D.1 : Int) = 651 + (D.1 : Int) by omega]
                         exact a4
                       · rw [show 651 + 8 * ((1 : Nat) : Int) + (D.1 : Int) = 659 + (D.1 : Int) by omega]
                         refine a5.trans ?_
                         show (c : Int) = (m : Int) - (D.2.2.1 : Int)
                         omega
                       · rw [show 651 + 8 * ((2 : Nat) : Int) + (D.1 : Int) = 667 + (D.1 : Int) by omega]
                         exact y3
                       · rw [show 651 + 8 * ((3 : Nat) : Int) + (D.1 : Int) = 675 + (D.1 : Int) by omega]
                         exact y4
                       · rw [show 651 + 8 * ((4 : Nat) : Int) + (D.1 : Int) = 683 + (D.1 : Int) by omega]
                         exact y5
                       · rw [show 651 + 8 * ((5 : Nat) : Int) + (D.1 : Int) = 691 + (D.1 : Int) by omega]
                         exact y6
                     · rw [if_neg ep]
                       exact a3 p w (by omega) hw)
              | (exfalso; omega)
      · intro c3
        constructor
        · intro c8
          refine s_50 (fun a2 => ?_) (fun a2 => ?_)
          · refine And.intro (fun c => absurd c (by decide)) (fun _ => ?_)
            constructor
            · intro c9
              first
              | (have f : False := by omega
                 refine False.elim ?_)
              | (obtain ⟨k2, hx⟩ := zMs_i hs2 (by omega)
                 subst hx
                 obtain ⟨hi2, hz⟩ := g1 k2 rfl
                 refine s_62 ht2 hc2 hs2 hi2 (hv k2 rfl) (by omega) (fun h3 hF3 z0 z1 => ?_))
              first
              | (exact hE _ _ (zblock_no (hv k rfl) (by omega)) (zRe_R hF2) hs2)
              | (exact hE _ _ (zblock_8 (hv k rfl) (by omega) (by omega)) (zRe_R hF2) hs2)
              | (obtain ⟨e, hx⟩ := zMs_e hs2 (by omega)
                 subst hx
                 exact hE e _ (g0 e rfl) hF hs2)
              | (obtain ⟨hi2, hz⟩ := g1 k2 rfl
                 have na : ¬ (0 ≤ v7 ∧ v7 ≤ 1) := by omega
                 rw [zsteps_no (hv k2 rfl) na] at hz
                 have hz : zblock n t k D = zbrest n t D (k2, m, S) := hz
                 unfold zbrest at hz
                 rw [zbd_l (zendp_no (hv k2 rfl) a2)] at hz
                 exact hE _ _ hz (hF.tr (zRe_R hF3)) hs3)
              | (have na : ¬ (0 ≤ v7 ∧ v7 ≤ 1) := by omega
                 rw [zsteps_no (hv k2 rfl) na] at hz
                 have hz : zblock n t k D = zbrest n t D (k2, m, S) := hz
                 unfold zbrest at hz
                 cases q1 : zendp n t k2 with
                 | inl e =>
                   rw [zbd_l q1] at hz
                   exact hE _ _ hz (hF.tr hF3) (z0 e q1)
                 | inr r =>
                   obtain ⟨y1, y2, y3, y4, y5, y6⟩ := z1 r q1
                   rw [zbd_r q1] at hz
                   cases q2 : zsm1 n t r.1 with
                   | inl e =>
                     rw [zbd_l q2] at hz
                     rw [q2] at y1
                     exact hE _ _ hz (hF.tr hF3) y1
                   | inr k3 =>
                     rw [zbd_r q2] at hz
                     rw [q2] at y1
                     refine hq _ (hF.tr hF3) (by rw [hz]; exact y1) (fun r2 hr2 => ?_)
                     rw [hz] at hr2
                     have hr2 := Sum.inr.inj hr2
                     subst hr2
                     obtain ⟨a1, a2, a3, a4, a5, a6, a7, a8, a9⟩ := y2
                     refine ⟨by rw [a1]; rfl, (by show D.1 + 1 ≤ 8; omega), fun p w hp hw => ?_, a6, a8, fun i w hi hw => a9 i w hi hw⟩
                     have hp : p < D.1 + 1 := hp
                     show _ = (if p = D.1 then _ else D.2.1 p) w
                     by_cases ep : p = D.1
                     · rw [if_pos ep, ep]
                       rcases (show w = 0 ∨ w = 1 ∨ w = 2 ∨ w = 3 ∨ w = 4 ∨ w = 5 by omega) with rfl | rfl | rfl | rfl | rfl | rfl
                       · rw [show 651 + 8 * ((0 : Nat) : Int) + (D.1 : Int) = 651 + (D.1 : Int) by omega]
                         exact a4
                       · rw [show 651 + 8 * ((1 : Nat) : Int) + (D.1 : Int) = 659 + (D.1 : Int) by omega]
                         refine a5.trans ?_
                         show (c : Int) = (m : Int) - (D.2.2.1 : Int)
                         omega
                       · rw [show 651 + 8 * ((2 : Nat) : Int) + (D.1 : Int) = 667 + (D.1 : Int) by omega]
                         exact y3
                       · rw [show 651 + 8 * ((3 : Nat) : Int) + (D.1 : Int) = 675 + (D.1 : Int) by omega]
                         exact y4
                       · rw [show 651 + 8 * ((4 : Nat) : Int) + (D.1 : Int) = 683 + (D.1 : Int) by omega]
                         exact y5
                       · rw [show 651 + 8 * ((5 : Nat) : Int) + (D.1 : Int) = 691 + (D.1 : Int) by omega]
                         exact y6
                     · rw [if_neg ep]
                       exact a3 p w (by omega) hw)
              | (exfalso; omega)
            · intro c9
              first
              | (exact hE _ _ (zblock_no (hv k rfl) (by omega)) (zRe_R hF2) hs2)
              | (exact hE _ _ (zblock_8 (hv k rfl) (by omega) (by omega)) (zRe_R hF2) hs2)
              | (obtain ⟨e, hx⟩ := zMs_e hs2 (by omega)
                 subst hx
                 exact hE e _ (g0 e rfl) hF hs2)
              | (obtain ⟨hi2, hz⟩ := g1 k2 rfl
                 have na : ¬ (0 ≤ v7 ∧ v7 ≤ 1) := by omega
                 rw [zsteps_no (hv k2 rfl) na] at hz
                 have hz : zblock n t k D = zbrest n t D (k2, m, S) := hz
                 unfold zbrest at hz
                 rw [zbd_l (zendp_no (hv k2 rfl) a2)] at hz
                 exact hE _ _ hz (hF.tr (zRe_R hF3)) hs3)
              | (have na : ¬ (0 ≤ v7 ∧ v7 ≤ 1) := by omega
                 rw [zsteps_no (hv k2 rfl) na] at hz
                 have hz : zblock n t k D = zbrest n t D (k2, m, S) := hz
                 unfold zbrest at hz
                 cases q1 : zendp n t k2 with
                 | inl e =>
                   rw [zbd_l q1] at hz
                   exact hE _ _ hz (hF.tr hF3) (z0 e q1)
                 | inr r =>
                   obtain ⟨y1, y2, y3, y4, y5, y6⟩ := z1 r q1
                   rw [zbd_r q1] at hz
                   cases q2 : zsm1 n t r.1 with
                   | inl e =>
                     rw [zbd_l q2] at hz
                     rw [q2] at y1
                     exact hE _ _ hz (hF.tr hF3) y1
                   | inr k3 =>
                     rw [zbd_r q2] at hz
                     rw [q2] at y1
                     refine hq _ (hF.tr hF3) (by rw [hz]; exact y1) (fun r2 hr2 => ?_)
                     rw [hz] at hr2
                     have hr2 := Sum.inr.inj hr2
                     subst hr2
                     obtain ⟨a1, a2, a3, a4, a5, a6, a7, a8, a9⟩ := y2
                     refine ⟨by rw [a1]; rfl, (by show D.1 + 1 ≤ 8; omega), fun p w hp hw => ?_, a6, a8, fun i w hi hw => a9 i w hi hw⟩
                     have hp : p < D.1 + 1 := hp
                     show _ = (if p = D.1 then _ else D.2.1 p) w
                     by_cases ep : p = D.1
                     · rw [if_pos ep, ep]
                       rcases (show w = 0 ∨ w = 1 ∨ w = 2 ∨ w = 3 ∨ w = 4 ∨ w = 5 by omega) with rfl | rfl | rfl | rfl | rfl | rfl
                       · rw [show 651 + 8 * ((0 : Nat) : Int) + (D.1 : Int) = 651 + (D.1 : Int) by omega]
                         exact a4
                       · rw [show 651 + 8 * ((1 : Nat) : Int) + (D.1 : Int) = 659 + (D.1 : Int) by omega]
                         refine a5.trans ?_
                         show (c : Int) = (m : Int) - (D.2.2.1 : Int)
                         omega
                       · rw [show 651 + 8 * ((2 : Nat) : Int) + (D.1 : Int) = 667 + (D.1 : Int) by omega]
                         exact y3
                       · rw [show 651 + 8 * ((3 : Nat) : Int) + (D.1 : Int) = 675 + (D.1 : Int) by omega]
                         exact y4
                       · rw [show 651 + 8 * ((4 : Nat) : Int) + (D.1 : Int) = 683 + (D.1 : Int) by omega]
                         exact y5
                       · rw [show 651 + 8 * ((5 : Nat) : Int) + (D.1 : Int) = 691 + (D.1 : Int) by omega]
                         exact y6
                     · rw [if_neg ep]
                       exact a3 p w (by omega) hw)
              | (exfalso; omega)
          · refine And.intro (fun _ => ?_) (fun c => absurd (by decide) c)
            obtain ⟨k2, hx⟩ := zMs_i hs2 (by omega)
            subst hx
            obtain ⟨g4, gk, gb⟩ := hs2.2 k2 rfl
            refine s_54k n320 g4 gk gb (by omega) (fun h3 hF3 hs3 g3 => ?_)
            constructor
            · intro c10
              first
              | (have f : False := by omega
                 refine False.elim ?_)
              | (obtain ⟨k2, hx⟩ := zMs_i hs2 (by omega)
                 subst hx
                 obtain ⟨hi2, hz⟩ := g1 k2 rfl
                 refine s_62 ht2 hc2 hs2 hi2 (hv k2 rfl) (by omega) (fun h3 hF3 z0 z1 => ?_))
              first
              | (exact hE _ _ (zblock_no (hv k rfl) (by omega)) (zRe_R hF2) hs2)
              | (exact hE _ _ (zblock_8 (hv k rfl) (by omega) (by omega)) (zRe_R hF2) hs2)
              | (obtain ⟨e, hx⟩ := zMs_e hs2 (by omega)
                 subst hx
                 exact hE e _ (g0 e rfl) hF hs2)
              | (obtain ⟨hi2, hz⟩ := g1 k2 rfl
                 have na : ¬ (0 ≤ v7 ∧ v7 ≤ 1) := by omega
                 rw [zsteps_no (hv k2 rfl) na] at hz
                 have hz : zblock n t k D = zbrest n t D (k2, m, S) := hz
                 unfold zbrest at hz
                 rw [zbd_l (zendp_no (hv k2 rfl) a2)] at hz
                 exact hE _ _ hz (hF.tr (zRe_R hF3)) hs3)
              | (have na : ¬ (0 ≤ v7 ∧ v7 ≤ 1) := by omega
                 rw [zsteps_no (hv k2 rfl) na] at hz
                 have hz : zblock n t k D = zbrest n t D (k2, m, S) := hz
                 unfold zbrest at hz
                 cases q1 : zendp n t k2 with
                 | inl e =>
                   rw [zbd_l q1] at hz
                   exact hE _ _ hz (hF.tr hF3) (z0 e q1)
                 | inr r =>
                   obtain ⟨y1, y2, y3, y4, y5, y6⟩ := z1 r q1
                   rw [zbd_r q1] at hz
                   cases q2 : zsm1 n t r.1 with
                   | inl e =>
                     rw [zbd_l q2] at hz
                     rw [q2] at y1
                     exact hE _ _ hz (hF.tr hF3) y1
                   | inr k3 =>
                     rw [zbd_r q2] at hz
                     rw [q2] at y1
                     refine hq _ (hF.tr hF3) (by rw [hz]; exact y1) (fun r2 hr2 => ?_)
                     rw [hz] at hr2
                     have hr2 := Sum.inr.inj hr2
                     subst hr2
                     obtain ⟨a1, a2, a3, a4, a5, a6, a7, a8, a9⟩ := y2
                     refine ⟨by rw [a1]; rfl, (by show D.1 + 1 ≤ 8; omega), fun p w hp hw => ?_, a6, a8, fun i w hi hw => a9 i w hi hw⟩
                     have hp : p < D.1 + 1 := hp
                     show _ = (if p = D.1 then _ else D.2.1 p) w
                     by_cases ep : p = D.1
                     · rw [if_pos ep, ep]
                       rcases (show w = 0 ∨ w = 1 ∨ w = 2 ∨ w = 3 ∨ w = 4 ∨ w = 5 by omega) with rfl | rfl | rfl | rfl | rfl | rfl
                       · rw [show 651 + 8 * ((0 : Nat) : Int) + (D.1 : Int) = 651 + (D.1 : Int) by omega]
                         exact a4
                       · rw [show 651 + 8 * ((1 : Nat) : Int) + (D.1 : Int) = 659 + (D.1 : Int) by omega]
                         refine a5.trans ?_
                         show (c : Int) = (m : Int) - (D.2.2.1 : Int)
                         omega
                       · rw [show 651 + 8 * ((2 : Nat) : Int) + (D.1 : Int) = 667 + (D.1 : Int) by omega]
                         exact y3
                       · rw [show 651 + 8 * ((3 : Nat) : Int) + (D.1 : Int) = 675 + (D.1 : Int) by omega]
                         exact y4
                       · rw [show 651 + 8 * ((4 : Nat) : Int) + (D.1 : Int) = 683 + (D.1 : Int) by omega]
                         exact y5
                       · rw [show 651 + 8 * ((5 : Nat) : Int) + (D.1 : Int) = 691 + (D.1 : Int) by omega]
                         exact y6
                     · rw [if_neg ep]
                       exact a3 p w (by omega) hw)
              | (exfalso; omega)
            · intro c10
              first
              | (exact hE _ _ (zblock_no (hv k rfl) (by omega)) (zRe_R hF2) hs2)
              | (exact hE _ _ (zblock_8 (hv k rfl) (by omega) (by omega)) (zRe_R hF2) hs2)
              | (obtain ⟨e, hx⟩ := zMs_e hs2 (by omega)
                 subst hx
                 exact hE e _ (g0 e rfl) hF hs2)
              | (obtain ⟨hi2, hz⟩ := g1 k2 rfl
                 have na : ¬ (0 ≤ v7 ∧ v7 ≤ 1) := by omega
                 rw [zsteps_no (hv k2 rfl) na] at hz
                 have hz : zblock n t k D = zbrest n t D (k2, m, S) := hz
                 unfold zbrest at hz
                 rw [zbd_l (zendp_no (hv k2 rfl) a2)] at hz
                 exact hE _ _ hz (hF.tr (zRe_R hF3)) hs3)
              | (have na : ¬ (0 ≤ v7 ∧ v7 ≤ 1) := by omega
                 rw [zsteps_no (hv k2 rfl) na] at hz
                 have hz : zblock n t k D = zbrest n t D (k2, m, S) := hz
                 unfold zbrest at hz
                 cases q1 : zendp n t k2 with
                 | inl e =>
                   rw [zbd_l q1] at hz
                   exact hE _ _ hz (hF.tr hF3) (z0 e q1)
                 | inr r =>
                   obtain ⟨y1, y2, y3, y4, y5, y6⟩ := z1 r q1
                   rw [zbd_r q1] at hz
                   cases q2 : zsm1 n t r.1 with
                   | inl e =>
                     rw [zbd_l q2] at hz
                     rw [q2] at y1
                     exact hE _ _ hz (hF.tr hF3) y1
                   | inr k3 =>
                     rw [zbd_r q2] at hz
                     rw [q2] at y1
                     refine hq _ (hF.tr hF3) (by rw [hz]; exact y1) (fun r2 hr2 => ?_)
                     rw [hz] at hr2
                     have hr2 := Sum.inr.inj hr2
                     subst hr2
                     obtain ⟨a1, a2, a3, a4, a5, a6, a7, a8, a9⟩ := y2
                     refine ⟨by rw [a1]; rfl, (by show D.1 + 1 ≤ 8; omega), fun p w hp hw => ?_, a6, a8, fun i w hi hw => a9 i w hi hw⟩
                     have hp : p < D.1 + 1 := hp
                     show _ = (if p = D.1 then _ else D.2.1 p) w
                     by_cases ep : p = D.1
                     · rw [if_pos ep, ep]
                       rcases (show w = 0 ∨ w = 1 ∨ w = 2 ∨ w = 3 ∨ w = 4 ∨ w = 5 by omega) with rfl | rfl | rfl | rfl | rfl | rfl
                       · rw [show 651 + 8 * ((0 : Nat) : Int) + (D.1 : Int) = 651 + (D.1 : Int) by omega]
                         exact a4
                       · rw [show 651 + 8 * ((1 : Nat) : Int) + (D.1 : Int) = 659 + (D.1 : Int) by omega]
                         refine a5.trans ?_
                         show (c : Int) = (m : Int) - (D.2.2.1 : Int)
                         omega
                       · rw [show 651 + 8 * ((2 : Nat) : Int) + (D.1 : Int) = 667 + (D.1 : Int) by omega]
                         exact y3
                       · rw [show 651 + 8 * ((3 : Nat) : Int) + (D.1 : Int) = 675 + (D.1 : Int) by omega]
                         exact y4
                       · rw [show 651 + 8 * ((4 : Nat) : Int) + (D.1 : Int) = 683 + (D.1 : Int) by omega]
                         exact y5
                       · rw [show 651 + 8 * ((5 : Nat) : Int) + (D.1 : Int) = 691 + (D.1 : Int) by omega]
                         exact y6
                     · rw [if_neg ep]
                       exact a3 p w (by omega) hw)
              | (exfalso; omega)
        · intro c8
          constructor
          · intro c11
            first
            | (have f : False := by omega
               refine False.elim ?_)
            | (obtain ⟨k2, hx⟩ := zMs_i hs2 (by omega)
               subst hx
               obtain ⟨hi2, hz⟩ := g1 k2 rfl
               refine s_62 ht2 hc2 hs2 hi2 (hv k2 rfl) (by omega) (fun h3 hF3 z0 z1 => ?_))
            first
            | (exact hE _ _ (zblock_no (hv k rfl) (by omega)) (zRe_R hF2) hs2)
            | (exact hE _ _ (zblock_8 (hv k rfl) (by omega) (by omega)) (zRe_R hF2) hs2)
            | (obtain ⟨e, hx⟩ := zMs_e hs2 (by omega)
               subst hx
               exact hE e _ (g0 e rfl) hF hs2)
            | (obtain ⟨hi2, hz⟩ := g1 k2 rfl
               have na : ¬ (0 ≤ v7 ∧ v7 ≤ 1) := by omega
               rw [zsteps_no (hv k2 rfl) na] at hz
               have hz : zblock n t k D = zbrest n t D (k2, m, S) := hz
               unfold zbrest at hz
               rw [zbd_l (zendp_no (hv k2 rfl) a2)] at hz
               exact hE _ _ hz (hF.tr (zRe_R hF3)) hs3)
            | (have na : ¬ (0 ≤ v7 ∧ v7 ≤ 1) := by omega
               rw [zsteps_no (hv k2 rfl) na] at hz
               have hz : zblock n t k D = zbrest n t D (k2, m, S) := hz
               unfold zbrest at hz
               cases q1 : zendp n t k2 with
               | inl e =>
                 rw [zbd_l q1] at hz
                 exact hE _ _ hz (hF.tr hF3) (z0 e q1)
               | inr r =>
                 obtain ⟨y1, y2, y3, y4, y5, y6⟩ := z1 r q1
                 rw [zbd_r q1] at hz
                 cases q2 : zsm1 n t r.1 with
                 | inl e =>
                   rw [zbd_l q2] at hz
                   rw [q2] at y1
                   exact hE _ _ hz (hF.tr hF3) y1
                 | inr k3 =>
                   rw [zbd_r q2] at hz
                   rw [q2] at y1
                   refine hq _ (hF.tr hF3) (by rw [hz]; exact y1) (fun r2 hr2 => ?_)
                   rw [hz] at hr2
                   have hr2 := Sum.inr.inj hr2
                   subst hr2
                   obtain ⟨a1, a2, a3, a4, a5, a6, a7, a8, a9⟩ := y2
                   refine ⟨by rw [a1]; rfl, (by show D.1 + 1 ≤ 8; omega), fun p w hp hw => ?_, a6, a8, fun i w hi hw => a9 i w hi hw⟩
                   have hp : p < D.1 + 1 := hp
                   show _ = (if p = D.1 then _ else D.2.1 p) w
                   by_cases ep : p = D.1
                   · rw [if_pos ep, ep]
                     rcases (show w = 0 ∨ w = 1 ∨ w = 2 ∨ w = 3 ∨ w = 4 ∨ w = 5 by omega) with rfl | rfl | rfl | rfl | rfl | rfl
                     · rw [show 651 + 8 * ((0 : Nat) : Int) + (D.1 : Int) = 651 + (D.1 : Int) by omega]
                       exact a4
                     · rw [show 651 + 8 * ((1 : Nat) : Int) + (D.1 : Int) = 659 + (D.1 : Int) by omega]
                       refine a5.trans ?_
                       show (c : Int) = (m : Int) - (D.2.2.1 : Int)
                       omega
                     · rw [show 651 + 8 * ((2 : Nat) : Int) + (D.1 : Int) = 667 + (D.1 : Int) by omega]
                       exact y3
                     · rw [show 651 + 8 * ((3 : Nat) : Int) + (D.1 : Int) = 675 + (D.1 : Int) by omega]
                       exact y4
                     · rw [show 651 + 8 * ((4 : Nat) : Int) + (D.1 : Int) = 683 + (D.1 : Int) by omega]
                       exact y5
                     · rw [show 651 + 8 * ((5 : Nat) : Int) + (D.1 : Int) = 691 + (D.1 : Int) by omega]
                       exact y6
                   · rw [if_neg ep]
                     exact a3 p w (by omega) hw)
            | (exfalso; omega)
          · intro c11
            first
            | (exact hE _ _ (zblock_no (hv k rfl) (by omega)) (zRe_R hF2) hs2)
            | (exact hE _ _ (zblock_8 (hv k rfl) (by omega) (by omega)) (zRe_R hF2) hs2)
            | (obtain ⟨e, hx⟩ := zMs_e hs2 (by omega)
               subst hx
               exact hE e _ (g0 e rfl) hF hs2)
            | (obtain ⟨hi2, hz⟩ := g1 k2 rfl
               have na : ¬ (0 ≤ v7 ∧ v7 ≤ 1) := by omega
               rw [zsteps_no (hv k2 rfl) na] at hz
               have hz : zblock n t k D = zbrest n t D (k2, m, S) := hz
               unfold zbrest at hz
               rw [zbd_l (zendp_no (hv k2 rfl) a2)] at hz
               exact hE _ _ hz (hF.tr (zRe_R hF3)) hs3)
            | (have na : ¬ (0 ≤ v7 ∧ v7 ≤ 1) := by omega
               rw [zsteps_no (hv k2 rfl) na] at hz
               have hz : zblock n t k D = zbrest n t D (k2, m, S) := hz
               unfold zbrest at hz
               cases q1 : zendp n t k2 with
               | inl e =>
                 rw [zbd_l q1] at hz
                 exact hE _ _ hz (hF.tr hF3) (z0 e q1)
               | inr r =>
                 obtain ⟨y1, y2, y3, y4, y5, y6⟩ := z1 r q1
                 rw [zbd_r q1] at hz
                 cases q2 : zsm1 n t r.1 with
                 | inl e =>
                   rw [zbd_l q2] at hz
                   rw [q2] at y1
                   exact hE _ _ hz (hF.tr hF3) y1
                 | inr k3 =>
                   rw [zbd_r q2] at hz
                   rw [q2] at y1
                   refine hq _ (hF.tr hF3) (by rw [hz]; exact y1) (fun r2 hr2 => ?_)
                   rw [hz] at hr2
                   have hr2 := Sum.inr.inj hr2
                   subst hr2
                   obtain ⟨a1, a2, a3, a4, a5, a6, a7, a8, a9⟩ := y2
                   refine ⟨by rw [a1]; rfl, (by show D.1 + 1 ≤ 8; omega), fun p w hp hw => ?_, a6, a8, fun i w hi hw => a9 i w hi hw⟩
                   have hp : p < D.1 + 1 := hp
                   show _ = (if p = D.1 then _ else D.2.1 p) w
                   by_cases ep : p = D.1
                   · rw [if_pos ep, ep]
                     rcases (show w = 0 ∨ w = 1 ∨ w = 2 ∨ w = 3 ∨ w = 4 ∨ w = 5 by omega) with rfl | rfl | rfl | rfl | rfl | rfl
                     · rw [show 651 + 8 * ((0 : Nat) : Int) + (D.1 : Int) = 651 + (D.1 : Int) by omega]
                       exact a4
                     · rw [show 651 + 8 * ((1 : Nat) : Int) + (D.1 : Int) = 659 + (D.1 : Int) by omega]
                       refine a5.trans ?_
                       show (c : Int) = (m : Int) - (D.2.2.1 : Int)
                       omega
                     · rw [show 651 + 8 * ((2 : Nat) : Int) + (D.1 : Int) = 667 + (D.1 : Int) by omega]
                       exact y3
                     · rw [show 651 + 8 * ((3 : Nat) : Int) + (D.1 : Int) = 675 + (D.1 : Int) by omega]
                       exact y4
                     · rw [show 651 + 8 * ((4 : Nat) : Int) + (D.1 : Int) = 683 + (D.1 : Int) by omega]
                       exact y5
                     · rw [show 651 + 8 * ((5 : Nat) : Int) + (D.1 : Int) = 691 + (D.1 : Int) by omega]
                       exact y6
                   · rw [if_neg ep]
                     exact a3 p w (by omega) hw)
            | (exfalso; omega)
