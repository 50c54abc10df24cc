/-! where(); the reference's calls that ask for points -/
theorem zCx.fr {h h2 : zM} {G : zG} (hc : zCx h G) (e : ∀ r k, r = 0 ∨ (36 ≤ r ∧ r ≤ 43) ∨ (52 ≤ r ∧ r ≤ 57) ∨ r = 60 ∨ r = 61 → h2 r k = h r k) : zCx h2 G := by
  obtain ⟨a, b, c⟩ := hc
  refine ⟨(e _ _ (by omega)).trans a, b.fr (fun r k hr => e _ _ (by omega)), ?_⟩
  rw [e 0 14 (by omega)]
  refine c.imp id ?_
  rintro ⟨k, c1, c2, c3, c4⟩
  exact ⟨k, c1, c2, (e _ _ (by omega)).trans c3, fun q hq => (e _ _ (by omega)).trans (c4 q hq)⟩
set_option maxHeartbeats 4000000 in
set_option maxRecDepth 100000 in
/-- C.where -/
theorem s_13 {h : zM} {G : zG} (hp : zPc h 12 44 G) (hw : zWf G) (hc : zCp h G) {k i m j : Int} {Q : zQ} (hq : ∀ x h2, zaW G k i m j x → zF zCf h h2 → zCp h2 G → Q (some (.inl x)) h2) : zR 13 [.inr (.inr 0), .inl k, .inl i, .inl m, .inl j] h Q := by
  refine zx_met0 zk_13 (Or.inr ⟨_, _, rfl, rfl⟩) (Nat.le_of_ble_eq_true rfl) 1000 (fun hok hM => ?_)
  refine s_28 hp hw hc (fun h1 hF1 hc1 => ?_)
  have f1 := hc1.2.1
  have e7 := f1.2.2.2.1.2.1
  have n40 := (zPW_w hw).1
  have hp1 : zPc h1 12 44 G := hp.fr (fun w k hw => hF1 _ _ (zCf_n (by omega))) (fun k => hF1 _ _ (zCf_n (by omega))) (fun k => hF1 _ _ (zCf_n (by omega)))
  have e38 : ∀ p : Nat, p < (zPW G).1 → h1 38 (p : Int) = (zPW G).2.1 p 1 := fun p hp => (f1.2.2.2.1.2.2 p hp).1 1 (by omega) (by omega)
  refine s_36 (fun a1 => ?_) (fun a1 => ?_)
  · refine And.intro (fun c => absurd c (by decide)) (fun _ => ?_)
    constructor
    · intro c1
      first
      | (refine hq _ _ ?_ hF1 hc1.p
         unfold zaW
         rw [if_neg (fun q => ?_)]
         obtain ⟨q1, q2, q3, q4, q5⟩ := q
         first
         | omega
         | (refine a2 ⟨by omega, q4, ?_⟩
            have := e38 m.toNat (by omega)
            rw [Int.toNat_of_nonneg q3.1] at this
            omega))
      | (refine hq _ _ ?_ ((hF1.tr hF2).tr (zCf_L (Or.inr rfl) hF3)) hc3.p
         unfold zaW
         rw [if_pos (by rw [Int.toNat_natCast]; omega), Int.toNat_natCast, Int.toNat_natCast, Int.toNat_natCast, Int.toNat_natCast]
         exact Or.inl ⟨x7, rfl, q1, q2, q3, q4⟩)
      | (refine hq _ _ ?_ ((hF1.tr hF2).tr (zCf_L (Or.inr rfl) hF3)) hc3.p
         unfold zaW
         rw [if_pos (by rw [Int.toNat_natCast]; omega), Int.toNat_natCast, Int.toNat_natCast, Int.toNat_natCast, Int.toNat_natCast]
         exact Or.inr ⟨rfl, q1⟩)
    · intro c1
      refine s_37 (by omega) (fun a2 => ?_) (fun a2 => ?_)
      · refine And.intro (fun c => absurd c (by decide)) (fun _ => ?_)
        obtain ⟨k7, rfl⟩ : ∃ k7 : Nat, k = (k7 : Int) := ⟨k.toNat, by omega⟩
        have hk7 : k7 < (zPW G).1 := by omega
        obtain ⟨m7, rfl⟩ : ∃ m7 : Nat, m = (m7 : Int) := ⟨m.toNat, by omega⟩
        have hm7 : m7 < (zPW G).1 := by omega
        have em := e38 m7 hm7
        obtain ⟨j7, rfl⟩ : ∃ j7 : Nat, j = (j7 : Int) := ⟨j.toNat, by omega⟩
        obtain ⟨i7, rfl⟩ : ∃ i7 : Nat, i = (i7 : Int) := ⟨i.toNat, by omega⟩
        have hln := zshw_l (zPW_w hw) hk7
        have hst := zstp_l ((zPW G).2.2 m7 j7)
        refine s_29 hw hc1 hk7 (fun h2 hF2 hc2 hs => ?_)
        have hv2 := hc2.2.1.2.2.2.1
        have hsp := (hv2.2.2 m7 hm7).2.2.2 j7 (by omega)
        have hsb : 0 ≤ h2 37 (m7 : Int) + (j7 : Int) ∧ h2 37 (m7 : Int) + (j7 : Int) < 960 := hsp.bd
        refine And.intro (by show 0 ≤ _ ∧ _ < (40 : Int); omega) ?_
        refine And.intro (by omega) ?_
        refine s_146 (Or.inr rfl) hsp (((zPW_w hw).2 m7 hm7).2.2 j7 (by omega)) (fun h3 hF3 hs3 => ?_)
        have hc3 : zCx h3 G := hc2.fr (fun r q hr => hF3 _ _ (by
          unfold zLf
          rw [zbeq_ne (show r ≠ 62 by omega), zbeq_ne (show r ≠ 62 + 1 by omega)]
          rfl))
        have hs4 : zLt h3 60 (zshw (zPW G) k7) := ⟨(hF3 _ _ rfl).trans hs.1, fun q hq => (hF3 _ _ rfl).trans (hs.2 q hq)⟩
        refine s_149 hs4 hs3 (by omega) (by omega) (f := i7) (fun x7 q1 q2 q3 q4 => ?_) (fun q1 => ?_)
        · first
          | (refine hq _ _ ?_ hF1 hc1.p
             unfold zaW
             rw [if_neg (fun q => ?_)]
             obtain ⟨q1, q2, q3, q4, q5⟩ := q
             first
             | omega
             | (refine a2 ⟨by omega, q4, ?_⟩
                have := e38 m.toNat (by omega)
                rw [Int.toNat_of_nonneg q3.1] at this
                omega))
          | (refine hq _ _ ?_ ((hF1.tr hF2).tr (zCf_L (Or.inr rfl) hF3)) hc3.p
             unfold zaW
             rw [if_pos (by rw [Int.toNat_natCast]; omega), Int.toNat_natCast, Int.toNat_natCast, Int.toNat_natCast, Int.toNat_natCast]
             exact Or.inl ⟨x7, rfl, q1, q2, q3, q4⟩)
          | (refine hq _ _ ?_ ((hF1.tr hF2).tr (zCf_L (Or.inr rfl) hF3)) hc3.p
             unfold zaW
             rw [if_pos (by rw [Int.toNat_natCast]; omega), Int.toNat_natCast, Int.toNat_natCast, Int.toNat_natCast, Int.toNat_natCast]
             exact Or.inr ⟨rfl, q1⟩)
        · first
          | (refine hq _ _ ?_ hF1 hc1.p
             unfold zaW
             rw [if_neg (fun q => ?_)]
             obtain ⟨q1, q2, q3, q4, q5⟩ := q
             first
             | omega
             | (refine a2 ⟨by omega, q4, ?_⟩
                have := e38 m.toNat (by omega)
                rw [Int.toNat_of_nonneg q3.1] at this
                omega))
          | (refine hq _ _ ?_ ((hF1.tr hF2).tr (zCf_L (Or.inr rfl) hF3)) hc3.p
             unfold zaW
             rw [if_pos (by rw [Int.toNat_natCast]; omega), Int.toNat_natCast, Int.toNat_natCast, Int.toNat_natCast, Int.toNat_natCast]
             exact Or.inl ⟨x7, rfl, q1, q2, q3, q4⟩)
          | (refine hq _ _ ?_ ((hF1.tr hF2).tr (zCf_L (Or.inr rfl) hF3)) hc3.p
             unfold zaW
             rw [if_pos (by rw [Int.toNat_natCast]; omega), Int.toNat_natCast, Int.toNat_natCast, Int.toNat_natCast, Int.toNat_natCast]
             exact Or.inr ⟨rfl, q1⟩)
      · refine And.intro (fun _ => ?_) (fun c => absurd (by decide) c)
        first
        | (refine hq _ _ ?_ hF1 hc1.p
           unfold zaW
           rw [if_neg (fun q => ?_)]
           obtain ⟨q1, q2, q3, q4, q5⟩ := q
           first
           | omega
           | (refine a2 ⟨by omega, q4, ?_⟩
              have := e38 m.toNat (by omega)
              rw [Int.toNat_of_nonneg q3.1] at this
              omega))
        | (refine hq _ _ ?_ ((hF1.tr hF2).tr (zCf_L (Or.inr rfl) hF3)) hc3.p
           unfold zaW
           rw [if_pos (by rw [Int.toNat_natCast]; omega), Int.toNat_natCast, Int.toNat_natCast, Int.toNat_natCast, Int.toNat_natCast]
           exact Or.inl ⟨x7, rfl, q1, q2, q3, q4⟩)
        | (refine hq _ _ ?_ ((hF1.tr hF2).tr (zCf_L (Or.inr rfl) hF3)) hc3.p
           unfold zaW
           rw [if_pos (by rw [Int.toNat_natCast]; omega), Int.toNat_natCast, Int.toNat_natCast, Int.toNat_natCast, Int.toNat_natCast]
           exact Or.inr ⟨rfl, q1⟩)
  · refine And.intro (fun _ => ?_) (fun c => absurd (by decide) c)
    first
    | (refine hq _ _ ?_ hF1 hc1.p
       unfold zaW
       rw [if_neg (fun q => ?_)]
       obtain ⟨q1, q2, q3, q4, q5⟩ := q
       first
       | omega
       | (refine a2 ⟨by omega, q4, ?_⟩
          have := e38 m.toNat (by omega)
          rw [Int.toNat_of_nonneg q3.1] at this
          omega))
    | (refine hq _ _ ?_ ((hF1.tr hF2).tr (zCf_L (Or.inr rfl) hF3)) hc3.p
       unfold zaW
       rw [if_pos (by rw [Int.toNat_natCast]; omega), Int.toNat_natCast, Int.toNat_natCast, Int.toNat_natCast, Int.toNat_natCast]
       exact Or.inl ⟨x7, rfl, q1, q2, q3, q4⟩)
    | (refine hq _ _ ?_ ((hF1.tr hF2).tr (zCf_L (Or.inr rfl) hF3)) hc3.p
       unfold zaW
       rw [if_pos (by rw [Int.toNat_natCast]; omega), Int.toNat_natCast, Int.toNat_natCast, Int.toNat_natCast, Int.toNat_natCast]
       exact Or.inr ⟨rfl, q1⟩)
/-- the reference's points, made -/
def zMx (h : zM) (G : zG) : Prop := h 81 14 = 1 ∧ zFm h G
def zMp (h : zM) (G : zG) : Prop := (h 81 14 = 0 ∨ h 81 14 = 1) ∧ (h 81 14 = 1 → zFm h G)
theorem zMx.p {h : zM} {G : zG} (hm : zMx h G) : zMp h G := ⟨Or.inr hm.1, fun _ => hm.2⟩
theorem zFm.fr {h h2 : zM} {G : zG} (hf : zFm h G) (e1 : ∀ k, k = 12 ∨ k = 15 ∨ k = 16 → h2 81 k = h 81 k) (e : ∀ r k, 86 ≤ r ∧ r ≤ 94 → h2 r k = h r k) : zFm h2 G := by
  obtain ⟨a, b, c, d, f⟩ := hf
  refine ⟨(e1 _ (by omega)).trans a, fun x hx => (e _ _ (by omega)).trans (b x hx), (e1 _ (by omega)).trans c, d.fr (e1 _ (by omega)) (fun r k h1 h2 => e _ _ (by omega)), fun q j hj => ?_⟩
  obtain ⟨g1, g2⟩ := f q j hj
  exact ⟨(e _ _ (by omega)).trans g1, fun v h0 h6 => (e _ _ (by omega)).trans (g2 v h0 h6)⟩
theorem zMx.P {h h2 : zM} {G : zG} (hm : zMx h G) (hF : zF zPf h h2) : zMx h2 G := by
  refine ⟨(hF _ _ rfl).trans hm.1, hm.2.fr (fun k hk => ?_) (fun r k hr => ?_)⟩
  · rcases hk with rfl | rfl | rfl <;> exact hF _ _ rfl
  · refine hF _ _ ?_
    unfold zPf
    rw [zbeq_ne (show r ≠ 96 by omega), zbeq_ne (show r ≠ 81 by omega)]
    rfl
def zMg : Nat → Int → Bool := fun r k => zMn r k || zPf r k || Nat.beq r 97
theorem zMg_n {h h2 : zM} (hF : zF zMn h h2) : zF zMg h h2 := hF.mono (fun r j hf => by
  unfold zMg at hf
  simp only [Bool.or_eq_false_iff] at hf
  exact hf.1.1)
theorem zMg_p {h h2 : zM} (hF : zF zPf h h2) : zF zMg h h2 := hF.mono (fun r j hf => by
  unfold zMg at hf
  simp only [Bool.or_eq_false_iff] at hf
  exact hf.1.2)
theorem s_81p {h : zM} {G : zG} (hp : zPm h 0 G) (hw : zWf G) (hm : zMp h G) {Q : zQ} (hq : ∀ h2, zF zMn h h2 → zMx h2 G → Q none h2) : zR 81 [.inr (.inr 81)] h Q := by
  refine s_81 hp hw (fun q => ?_) (fun q h2 hF hf e => hq h2 hF ⟨e, hf⟩)
  have h1 : h 81 14 = 1 := by have := hm.1; omega
  exact hq _ zF.rf ⟨h1, hm.2 h1⟩
set_option maxHeartbeats 4000000 in
set_option maxRecDepth 100000 in
/-- M.isPoint -/
theorem s_82 {h : zM} {G : zG} (hp : zPm h 0 G) (hw : zWf G) (hm : zMp h G) {k : Int} {Q : zQ} (h1 : ∀ h2, zF zMn h h2 → zMx h2 G → 0 ≤ k ∧ k < ((zPW G).1 : Int) → Q (some (.inl 1)) h2) (h0 : ∀ h2, zF zMn h h2 → zMx h2 G → ¬ (0 ≤ k ∧ k < ((zPW G).1 : Int)) → Q (some (.inl 0)) h2) : zR 82 [.inr (.inr 81), .inl k] h Q := by
  have n40 := (zPW_w hw).1
  refine zx_met0 zk_82 (Or.inr ⟨_, _, rfl, rfl⟩) (Nat.le_of_ble_eq_true rfl) 1000 (fun hok hM => ?_)
  refine s_81p hp hw hm (fun h2 hF hx => ?_)
  have e15 := hx.2.2.2.2.1.1
  refine And.intro (by omega) ?_
  refine s_50 (fun a1 => ?_) (fun a1 => ?_)
  · refine And.intro (by first | exact Or.inl rfl | exact Or.inr rfl | omega) ?_
    first | exact h1 _ hF hx (by omega) | exact h0 _ hF hx (by omega)
  · refine And.intro (by first | exact Or.inl rfl | exact Or.inr rfl | omega) ?_
    first | exact h1 _ hF hx (by omega) | exact h0 _ hF hx (by omega)
set_option maxHeartbeats 4000000 in
set_option maxRecDepth 100000 in
/-- M.allOf -/
theorem s_87_0 {h : zM} {W : zW} (hv : zVm h W) (hw : zWw W) {Q : zQ} (hq : Q (some (.inl (zsm W.2.1 W.1))) h) : zR 87 [.inr (.inr 81), .inl 0] h Q := by
  have n40 := hw.1
  have e15 := hv.1
  refine zx_met zk_87 (Or.inr ⟨_, _, rfl, rfl⟩) (Nat.le_of_ble_eq_true rfl) (fun _ => false) 1000 (fun m j L S h2 => j = 4 ∧ S = [] ∧ h2 = h ∧ ∃ k7 : Nat, L = [some (.inr (.inr 81)), some (.inl 0), some (.inl (zsm W.2.1 k7)), some (.inl (k7 : Int))] ∧ k7 ≤ W.1 ∧ m = W.1 - k7) (fun hok hM => ?_) (fun hok hM => ?_)
  · exact ⟨_, rfl, rfl, rfl, 0, rfl, by omega, rfl⟩
  · rintro m j L S h2 hM2 ⟨rfl, rfl, rfl, k7, rfl, hk, hm⟩
    have hb := zsm_b (A := W.2.1) k7 (fun j hj => (hw.2 j (by omega)).1)
    constructor
    · intro c1
      refine And.intro (fun c2 => ?_) (fun c2 => absurd (by omega) c2)
      have hk7 : k7 < W.1 := by omega
      have e93 := (hv.2 k7 hk7).1
      have b93 := (hw.2 k7 hk7).1
      refine And.intro (by first | (show 0 ≤ _ ∧ _ < (40 : Int); omega) | (show 0 ≤ _ ∧ _ < (240 : Int); omega) | (show 0 ≤ _ ∧ _ < (8 : Int); omega) | (show 0 ≤ _ ∧ _ < (708 : Int); omega) | (show 0 ≤ _ ∧ _ < (4800 : Int); omega) | (show 0 ≤ _ ∧ _ < (800 : Int); omega)) ?_
      refine And.intro (by omega) ?_
      refine And.intro (by omega) ?_
      refine ⟨W.1 - (k7 + 1), by omega, rfl, rfl, rfl, k7 + 1, ?_, by omega, rfl⟩
      rw [e93]
      rfl
    · intro c1
      have kn : k7 = W.1 := by omega
      subst kn
      exact hq
set_option maxHeartbeats 4000000 in
set_option maxRecDepth 100000 in
/-- M.allOf -/
theorem s_87_1 {h : zM} {W : zW} (hv : zVm h W) (hw : zWw W) (hc : zWc h) {Q : zQ} (hq : ∀ h2, zF zPf h h2 → Q (some (.inl (zsl W W.1))) h2) : zR 87 [.inr (.inr 81), .inl 1] h Q := by
  have n40 := hw.1
  refine zx_met zk_87 (Or.inr ⟨_, _, rfl, rfl⟩) (Nat.le_of_ble_eq_true rfl) (fun _ => false) 1000 (fun m j L S h2 => j = 4 ∧ S = [] ∧ zF zPf h h2 ∧ ∃ k7 : Nat, L = [some (.inr (.inr 81)), some (.inl 1), some (.inl (zsl W k7)), some (.inl (k7 : Int))] ∧ k7 ≤ W.1 ∧ m = W.1 - k7) (fun hok hM => ?_) (fun hok hM => ?_)
  · exact ⟨_, rfl, rfl, zF.rf, 0, rfl, by omega, rfl⟩
  · rintro m j L S h2 hM2 ⟨rfl, rfl, hF, k7, rfl, hk, hm⟩
    have hv2 := hv.P hF
    have e15 := hv2.1
    have hb := zsl_b hw k7 hk
    constructor
    · intro c1
      refine And.intro (fun c2 => absurd c2 (by omega)) (fun c2 => ?_)
      have hk7 : k7 < W.1 := by omega
      have hln := zshw_l hw hk7
      refine s_103 (hc.fr (fun _ => hF _ _ rfl) (fun _ => hF _ _ rfl)) hv2 hw hk7 (fun h3 hG hs => ?_)
      refine And.intro (by omega) ?_
      refine And.intro (by omega) ?_
      exact ⟨W.1 - (k7 + 1), by omega, rfl, rfl, hF.tr hG, k7 + 1, rfl, by omega, rfl⟩
    · intro c1
      have kn : k7 = W.1 := by omega
      subst kn
      exact hq _ hF
set_option maxHeartbeats 4000000 in
set_option maxRecDepth 100000 in
/-- M.rule -/
theorem s_88 {h : zM} {G : zG} (hp : zPm h 0 G) (hw : zWf G) (hm : zMp h G) (hc : zWc h) {w : Int} {Q : zQ} (hq : ∀ h2, zF zMg h h2 → zMp h2 G → Q (some (.inl (zaR G w))) h2) : zR 88 [.inr (.inr 81), .inl w] h Q := by
  have hws := hw.2.2.2.2.2
  refine zx_met0 zk_88 (Or.inr ⟨_, _, rfl, rfl⟩) (Nat.le_of_ble_eq_true rfl) 1000 (fun hok hM => ?_)
  refine s_81p hp hw hm (fun h1 hF1 hx => ?_)
  have f1 := hx.2
  have n40 := (zPW_w hw).1
  have e15 := f1.2.2.2.1.1
  have hp1 : zPm h1 0 G := hp.fr (fun _ => hF1 _ _ rfl)
  have hn1 := hp1.n
  constructor
  · intro c1
    refine And.intro (by first | (show 0 ≤ _ ∧ _ < (40 : Int); omega) | (show 0 ≤ _ ∧ _ < (240 : Int); omega) | (show 0 ≤ _ ∧ _ < (8 : Int); omega) | (show 0 ≤ _ ∧ _ < (708 : Int); omega) | (show 0 ≤ _ ∧ _ < (4800 : Int); omega) | (show 0 ≤ _ ∧ _ < (800 : Int); omega)) ?_
    unfold zaR at hq
    first
    | (rw [if_pos (by assumption), ← hn1.1] at hq; exact hq _ (zMg_n hF1) hx.p)
    | (rw [if_neg (by assumption), if_pos (by assumption), ← hn1.2.1] at hq; exact hq _ (zMg_n hF1) hx.p)
    | (rw [if_neg (by assumption), if_neg (by assumption), if_pos (by assumption)] at hq
       have := hq _ (zMg_n hF1) hx.p
       rw [← f1.1] at this
       exact this)
    | (rw [if_neg (by assumption), if_neg (by assumption), if_neg (by assumption), if_pos (by assumption)] at hq; exact hq _ (zMg_n hF1) hx.p)
    | (rw [if_neg (by omega), if_neg (by omega), if_neg (by omega), if_neg (by omega), if_pos (by omega)] at hq
       have := hq _ (zMg_n hF1) hx.p
       rw [show G.2.2.2.2.2 = 1 - h1 82 174 by omega] at this
       exact this)
    | (rw [if_neg (by omega), if_neg (by omega), if_neg (by omega), if_neg (by omega), if_neg (by omega), if_pos (by omega)] at hq
       have := hq _ (zMg_n hF1) hx.p
       have e5 := f1.2.2.1
       cases eo : (zPt G).2
       · rw [eo] at e5 this
         have e5 : h1 81 16 = 0 := e5
         first
         | (exfalso; omega)
         | (rw [if_neg (by decide), ← e15] at this
            exact this)
       · rw [eo] at e5 this
         have e5 : h1 81 16 = 1 := e5
         first
         | (exfalso; omega)
         | (rw [if_pos rfl] at this
            exact this))
    | (rw [if_neg (by omega), if_neg (by omega), if_neg (by omega), if_neg (by omega), if_neg (by omega), if_neg (by omega), if_pos (by omega)] at hq
       exact hq _ (zMg_n hF1) hx.p)
    | (rw [if_neg (by omega), if_neg (by omega), if_neg (by omega), if_neg (by omega), if_neg (by omega), if_neg (by omega), if_neg (by omega), if_pos (by omega)] at hq
       exact hq _ ((zMg_n hF1).tr (zMg_p hF2)) (hx.P hF2).p)
    | (rw [if_neg (by omega), if_neg (by omega), if_neg (by omega), if_neg (by omega), if_neg (by omega), if_neg (by omega), if_neg (by omega), if_neg (by omega)] at hq
       exact hq _ (zMg_n hF1) hx.p)
  · intro c1
    constructor
    · intro c2
      refine And.intro (by first | (show 0 ≤ _ ∧ _ < (40 : Int); omega) | (show 0 ≤ _ ∧ _ < (240 : Int); omega) | (show 0 ≤ _ ∧ _ < (8 : Int); omega) | (show 0 ≤ _ ∧ _ < (708 : Int); omega) | (show 0 ≤ _ ∧ _ < (4800 : Int); omega) | (show 0 ≤ _ ∧ _ < (800 : Int); omega)) ?_
      unfold zaR at hq
      first
      | (rw [if_pos (by assumption), ← hn1.1] at hq; exact hq _ (zMg_n hF1) hx.p)
      | (rw [if_neg (by assumption), if_pos (by assumption), ← hn1.2.1] at hq; exact hq _ (zMg_n hF1) hx.p)
      | (rw [if_neg (by assumption), if_neg (by assumption), if_pos (by assumption)] at hq
         have := hq _ (zMg_n hF1) hx.p
         rw [← f1.1] at this
         exact this)
      | (rw [if_neg (by assumption), if_neg (by assumption), if_neg (by assumption), if_pos (by assumption)] at hq; exact hq _ (zMg_n hF1) hx.p)
      | (rw [if_neg (by omega), if_neg (by omega), if_neg (by omega), if_neg (by omega), if_pos (by omega)] at hq
         have := hq _ (zMg_n hF1) hx.p
         rw [show G.2.2.2.2.2 = 1 - h1 82 174 by omega] at this
         exact this)
      | (rw [if_neg (by omega), if_neg (by omega), if_neg (by omega), if_neg (by omega), if_neg (by omega), if_pos (by omega)] at hq
         have := hq _ (zMg_n hF1) hx.p
         have e5 := f1.2.2.1
         cases eo : (zPt G).2
         · rw [eo] at e5 this
           have e5 : h1 81 16 = 0 := e5
           first
           | (exfalso; omega)
           | (rw [if_neg (by decide), ← e15] at this
              exact this)
         · rw [eo] at e5 this
           have e5 : h1 81 16 = 1 := e5
           first
           | (exfalso; omega)
           | (rw [if_pos rfl] at this
              exact this))
      | (rw [if_neg (by omega), if_neg (by omega), if_neg (by omega), if_neg (by omega), if_neg (by omega), if_neg (by omega), if_pos (by omega)] at hq
         exact hq _ (zMg_n hF1) hx.p)
      | (rw [if_neg (by omega), if_neg (by omega), if_neg (by omega), if_neg (by omega), if_neg (by omega), if_neg (by omega), if_neg (by omega), if_pos (by omega)] at hq
         exact hq _ ((zMg_n hF1).tr (zMg_p hF2)) (hx.P hF2).p)
      | (rw [if_neg (by omega), if_neg (by omega), if_neg (by omega), if_neg (by omega), if_neg (by omega), if_neg (by omega), if_neg (by omega), if_neg (by omega)] at hq
         exact hq _ (zMg_n hF1) hx.p)
    · intro c2
      constructor
      · intro c3
        unfold zaR at hq
        first
        | (rw [if_pos (by assumption), ← hn1.1] at hq; exact hq _ (zMg_n hF1) hx.p)
        | (rw [if_neg (by assumption), if_pos (by assumption), ← hn1.2.1] at hq; exact hq _ (zMg_n hF1) hx.p)
        | (rw [if_neg (by assumption), if_neg (by assumption), if_pos (by assumption)] at hq
           have := hq _ (zMg_n hF1) hx.p
           rw [← f1.1] at this
           exact this)
        | (rw [if_neg (by assumption), if_neg (by assumption), if_neg (by assumption), if_pos (by assumption)] at hq; exact hq _ (zMg_n hF1) hx.p)
        | (rw [if_neg (by omega), if_neg (by omega), if_neg (by omega), if_neg (by omega), if_pos (by omega)] at hq
           have := hq _ (zMg_n hF1) hx.p
           rw [show G.2.2.2.2.2 = 1 - h1 82 174 by omega] at this
           exact this)
        | (rw [if_neg (by omega), if_neg (by omega), if_neg (by omega), if_neg (by omega), if_neg (by omega), if_pos (by omega)] at hq
           have := hq _ (zMg_n hF1) hx.p
           have e5 := f1.2.2.1
           cases eo : (zPt G).2
           · rw [eo] at e5 this
             have e5 : h1 81 16 = 0 := e5
             first
             | (exfalso; omega)
             | (rw [if_neg (by decide), ← e15] at this
                exact this)
           · rw [eo] at e5 this
             have e5 : h1 81 16 = 1 := e5
             first
             | (exfalso; omega)
             | (rw [if_pos rfl] at this
                exact this))
        | (rw [if_neg (by omega), if_neg (by omega), if_neg (by omega), if_neg (by omega), if_neg (by omega), if_neg (by omega), if_pos (by omega)] at hq
           exact hq _ (zMg_n hF1) hx.p)
        | (rw [if_neg (by omega), if_neg (by omega), if_neg (by omega), if_neg (by omega), if_neg (by omega), if_neg (by omega), if_neg (by omega), if_pos (by omega)] at hq
           exact hq _ ((zMg_n hF1).tr (zMg_p hF2)) (hx.P hF2).p)
        | (rw [if_neg (by omega), if_neg (by omega), if_neg (by omega), if_neg (by omega), if_neg (by omega), if_neg (by omega), if_neg (by omega), if_neg (by omega)] at hq
           exact hq _ (zMg_n hF1) hx.p)
      · intro c3
        constructor
        · intro c4
          refine s_86 hp1 hw ?_
          unfold zaR at hq
          first
          | (rw [if_pos (by assumption), ← hn1.1] at hq; exact hq _ (zMg_n hF1) hx.p)
          | (rw [if_neg (by assumption), if_pos (by assumption), ← hn1.2.1] at hq; exact hq _ (zMg_n hF1) hx.p)
          | (rw [if_neg (by assumption), if_neg (by assumption), if_pos (by assumption)] at hq
             have := hq _ (zMg_n hF1) hx.p
             rw [← f1.1] at this
             exact this)
          | (rw [if_neg (by assumption), if_neg (by assumption), if_neg (by assumption), if_pos (by assumption)] at hq; exact hq _ (zMg_n hF1) hx.p)
          | (rw [if_neg (by omega), if_neg (by omega), if_neg (by omega), if_neg (by omega), if_pos (by omega)] at hq
             have := hq _ (zMg_n hF1) hx.p
             rw [show G.2.2.2.2.2 = 1 - h1 82 174 by omega] at this
             exact this)
          | (rw [if_neg (by omega), if_neg (by omega), if_neg (by omega), if_neg (by omega), if_neg (by omega), if_pos (by omega)] at hq
             have := hq _ (zMg_n hF1) hx.p
             have e5 := f1.2.2.1
             cases eo : (zPt G).2
             · rw [eo] at e5 this
               have e5 : h1 81 16 = 0 := e5
               first
               | (exfalso; omega)
               | (rw [if_neg (by decide), ← e15] at this
                  exact this)
             · rw [eo] at e5 this
               have e5 : h1 81 16 = 1 := e5
               first
               | (exfalso; omega)
               | (rw [if_pos rfl] at this
                  exact this))
          | (rw [if_neg (by omega), if_neg (by omega), if_neg (by omega), if_neg (by omega), if_neg (by omega), if_neg (by omega), if_pos (by omega)] at hq
             exact hq _ (zMg_n hF1) hx.p)
          | (rw [if_neg (by omega), if_neg (by omega), if_neg (by omega), if_neg (by omega), if_neg (by omega), if_neg (by omega), if_neg (by omega), if_pos (by omega)] at hq
             exact hq _ ((zMg_n hF1).tr (zMg_p hF2)) (hx.P hF2).p)
          | (rw [if_neg (by omega), if_neg (by omega), if_neg (by omega), if_neg (by omega), if_neg (by omega), if_neg (by omega), if_neg (by omega), if_neg (by omega)] at hq
             exact hq _ (zMg_n hF1) hx.p)
        · intro c4
          constructor
          · intro c5
            refine And.intro (by first | (show 0 ≤ _ ∧ _ < (40 : Int); omega) | (show 0 ≤ _ ∧ _ < (240 : Int); omega) | (show 0 ≤ _ ∧ _ < (8 : Int); omega) | (show 0 ≤ _ ∧ _ < (708 : Int); omega) | (show 0 ≤ _ ∧ _ < (4800 : Int); omega) | (show 0 ≤ _ ∧ _ < (800 : Int); omega)) ?_
            refine And.intro (by omega) ?_
            unfold zaR at hq
            first
            | (rw [if_pos (by assumption), ← hn1.1] at hq; exact hq _ (zMg_n hF1) hx.p)
            | (rw [if_neg (by assumption), if_pos (by assumption), ← hn1.2.1] at hq; exact hq _ (zMg_n hF1) hx.p)
            | (rw [if_neg (by assumption), if_neg (by assumption), if_pos (by assumption)] at hq
               have := hq _ (zMg_n hF1) hx.p
               rw [← f1.1] at this
               exact this)
            | (rw [if_neg (by assumption), if_neg (by assumption), if_neg (by assumption), if_pos (by assumption)] at hq; exact hq _ (zMg_n hF1) hx.p)
            | (rw [if_neg (by omega), if_neg (by omega), if_neg (by omega), if_neg (by omega), if_pos (by omega)] at hq
               have := hq _ (zMg_n hF1) hx.p
               rw [show G.2.2.2.2.2 = 1 - h1 82 174 by omega] at this
               exact this)
            | (rw [if_neg (by omega), if_neg (by omega), if_neg (by omega), if_neg (by omega), if_neg (by omega), if_pos (by omega)] at hq
               have := hq _ (zMg_n hF1) hx.p
               have e5 := f1.2.2.1
               cases eo : (zPt G).2
               · rw [eo] at e5 this
                 have e5 : h1 81 16 = 0 := e5
                 first
                 | (exfalso; omega)
                 | (rw [if_neg (by decide), ← e15] at this
                    exact this)
               · rw [eo] at e5 this
                 have e5 : h1 81 16 = 1 := e5
                 first
                 | (exfalso; omega)
                 | (rw [if_pos rfl] at this
                    exact this))
            | (rw [if_neg (by omega), if_neg (by omega), if_neg (by omega), if_neg (by omega), if_neg (by omega), if_neg (by omega), if_pos (by omega)] at hq
               exact hq _ (zMg_n hF1) hx.p)
            | (rw [if_neg (by omega), if_neg (by omega), if_neg (by omega), if_neg (by omega), if_neg (by omega), if_neg (by omega), if_neg (by omega), if_pos (by omega)] at hq
               exact hq _ ((zMg_n hF1).tr (zMg_p hF2)) (hx.P hF2).p)
            | (rw [if_neg (by omega), if_neg (by omega), if_neg (by omega), if_neg (by omega), if_neg (by omega), if_neg (by omega), if_neg (by omega), if_neg (by omega)] at hq
               exact hq _ (zMg_n hF1) hx.p)
          · intro c5
            constructor
            · intro c6
              constructor
              · intro c7
                unfold zaR at hq
                first
                | (rw [if_pos (by assumption), ← hn1.1] at hq; exact hq _ (zMg_n hF1) hx.p)
                | (rw [if_neg (by assumption), if_pos (by assumption), ← hn1.2.1] at hq; exact hq _ (zMg_n hF1) hx.p)
                | (rw [if_neg (by assumption), if_neg (by assumption), if_pos (by assumption)] at hq
                   have := hq _ (zMg_n hF1) hx.p
                   rw [← f1.1] at this
                   exact this)
                | (rw [if_neg (by assumption), if_neg (by assumption), if_neg (by assumption), if_pos (by assumption)] at hq; exact hq _ (zMg_n hF1) hx.p)
                | (rw [if_neg (by omega), if_neg (by omega), if_neg (by omega), if_neg (by omega), if_pos (by omega)] at hq
                   have := hq _ (zMg_n hF1) hx.p
                   rw [show G.2.2.2.2.2 = 1 - h1 82 174 by omega] at this
                   exact this)
                | (rw [if_neg (by omega), if_neg (by omega), if_neg (by omega), if_neg (by omega), if_neg (by omega), if_pos (by omega)] at hq
                   have := hq _ (zMg_n hF1) hx.p
                   have e5 := f1.2.2.1
                   cases eo : (zPt G).2
                   · rw [eo] at e5 this
                     have e5 : h1 81 16 = 0 := e5
                     first
                     | (exfalso; omega)
                     | (rw [if_neg (by decide), ← e15] at this
                        exact this)
                   · rw [eo] at e5 this
                     have e5 : h1 81 16 = 1 := e5
                     first
                     | (exfalso; omega)
                     | (rw [if_pos rfl] at this
                        exact this))
                | (rw [if_neg (by omega), if_neg (by omega), if_neg (by omega), if_neg (by omega), if_neg (by omega), if_neg (by omega), if_pos (by omega)] at hq
                   exact hq _ (zMg_n hF1) hx.p)
                | (rw [if_neg (by omega), if_neg (by omega), if_neg (by omega), if_neg (by omega), if_neg (by omega), if_neg (by omega), if_neg (by omega), if_pos (by omega)] at hq
                   exact hq _ ((zMg_n hF1).tr (zMg_p hF2)) (hx.P hF2).p)
                | (rw [if_neg (by omega), if_neg (by omega), if_neg (by omega), if_neg (by omega), if_neg (by omega), if_neg (by omega), if_neg (by omega), if_neg (by omega)] at hq
                   exact hq _ (zMg_n hF1) hx.p)
              · intro c7
                unfold zaR at hq
                first
                | (rw [if_pos (by assumption), ← hn1.1] at hq; exact hq _ (zMg_n hF1) hx.p)
                | (rw [if_neg (by assumption), if_pos (by assumption), ← hn1.2.1] at hq; exact hq _ (zMg_n hF1) hx.p)
                | (rw [if_neg (by assumption), if_neg (by assumption), if_pos (by assumption)] at hq
                   have := hq _ (zMg_n hF1) hx.p
                   rw [← f1.1] at this
                   exact this)
                | (rw [if_neg (by assumption), if_neg (by assumption), if_neg (by assumption), if_pos (by assumption)] at hq; exact hq _ (zMg_n hF1) hx.p)
                | (rw [if_neg (by omega), if_neg (by omega), if_neg (by omega), if_neg (by omega), if_pos (by omega)] at hq
                   have := hq _ (zMg_n hF1) hx.p
                   rw [show G.2.2.2.2.2 = 1 - h1 82 174 by omega] at this
                   exact this)
                | (rw [if_neg (by omega), if_neg (by omega), if_neg (by omega), if_neg (by omega), if_neg (by omega), if_pos (by omega)] at hq
                   have := hq _ (zMg_n hF1) hx.p
                   have e5 := f1.2.2.1
                   cases eo : (zPt G).2
                   · rw [eo] at e5 this
                     have e5 : h1 81 16 = 0 := e5
                     first
                     | (exfalso; omega)
                     | (rw [if_neg (by decide), ← e15] at this
                        exact this)
                   · rw [eo] at e5 this
                     have e5 : h1 81 16 = 1 := e5
                     first
                     | (exfalso; omega)
                     | (rw [if_pos rfl] at this
                        exact this))
                | (rw [if_neg (by omega), if_neg (by omega), if_neg (by omega), if_neg (by omega), if_neg (by omega), if_neg (by omega), if_pos (by omega)] at hq
                   exact hq _ (zMg_n hF1) hx.p)
                | (rw [if_neg (by omega), if_neg (by omega), if_neg (by omega), if_neg (by omega), if_neg (by omega), if_neg (by omega), if_neg (by omega), if_pos (by omega)] at hq
                   exact hq _ ((zMg_n hF1).tr (zMg_p hF2)) (hx.P hF2).p)
                | (rw [if_neg (by omega), if_neg (by omega), if_neg (by omega), if_neg (by omega), if_neg (by omega), if_neg (by omega), if_neg (by omega), if_neg (by omega)] at hq
                   exact hq _ (zMg_n hF1) hx.p)
            · intro c6
              constructor
              · intro c8
                refine s_87_0 f1.2.2.2.1 (zPW_w hw) ?_
                unfold zaR at hq
                first
                | (rw [if_pos (by assumption), ← hn1.1] at hq; exact hq _ (zMg_n hF1) hx.p)
                | (rw [if_neg (by assumption), if_pos (by assumption), ← hn1.2.1] at hq; exact hq _ (zMg_n hF1) hx.p)
                | (rw [if_neg (by assumption), if_neg (by assumption), if_pos (by assumption)] at hq
                   have := hq _ (zMg_n hF1) hx.p
                   rw [← f1.1] at this
                   exact this)
                | (rw [if_neg (by assumption), if_neg (by assumption), if_neg (by assumption), if_pos (by assumption)] at hq; exact hq _ (zMg_n hF1) hx.p)
                | (rw [if_neg (by omega), if_neg (by omega), if_neg (by omega), if_neg (by omega), if_pos (by omega)] at hq
                   have := hq _ (zMg_n hF1) hx.p
                   rw [show G.2.2.2.2.2 = 1 - h1 82 174 by omega] at this
                   exact this)
                | (rw [if_neg (by omega), if_neg (by omega), if_neg (by omega), if_neg (by omega), if_neg (by omega), if_pos (by omega)] at hq
                   have := hq _ (zMg_n hF1) hx.p
                   have e5 := f1.2.2.1
                   cases eo : (zPt G).2
                   · rw [eo] at e5 this
                     have e5 : h1 81 16 = 0 := e5
                     first
                     | (exfalso; omega)
                     | (rw [if_neg (by decide), ← e15] at this
                        exact this)
                   · rw [eo] at e5 this
                     have e5 : h1 81 16 = 1 := e5
                     first
                     | (exfalso; omega)
                     | (rw [if_pos rfl] at this
                        exact this))
                | (rw [if_neg (by omega), if_neg (by omega), if_neg (by omega), if_neg (by omega), if_neg (by omega), if_neg (by omega), if_pos (by omega)] at hq
                   exact hq _ (zMg_n hF1) hx.p)
                | (rw [if_neg (by omega), if_neg (by omega), if_neg (by omega), if_neg (by omega), if_neg (by omega), if_neg (by omega), if_neg (by omega), if_pos (by omega)] at hq
                   exact hq _ ((zMg_n hF1).tr (zMg_p hF2)) (hx.P hF2).p)
                | (rw [if_neg (by omega), if_neg (by omega), if_neg (by omega), if_neg (by omega), if_neg (by omega), if_neg (by omega), if_neg (by omega), if_neg (by omega)] at hq
                   exact hq _ (zMg_n hF1) hx.p)
              · intro c8
                constructor
                · intro c9
                  refine s_87_1 f1.2.2.2.1 (zPW_w hw) (hc.fr (fun _ => hF1 _ _ rfl) (fun _ => hF1 _ _ rfl)) (fun h2 hF2 => ?_)
                  unfold zaR at hq
                  first
                  | (rw [if_pos (by assumption), ← hn1.1] at hq; exact hq _ (zMg_n hF1) hx.p)
                  | (rw [if_neg (by assumption), if_pos (by assumption), ← hn1.2.1] at hq; exact hq _ (zMg_n hF1) hx.p)
                  | (rw [if_neg (by assumption), if_neg (by assumption), if_pos (by assumption)] at hq
                     have := hq _ (zMg_n hF1) hx.p
                     rw [← f1.1] at this
                     exact this)
                  | (rw [if_neg (by assumption), if_neg (by assumption), if_neg (by assumption), if_pos (by assumption)] at hq; exact hq _ (zMg_n hF1) hx.p)
                  | (rw [if_neg (by omega), if_neg (by omega), if_neg (by omega), if_neg (by omega), if_pos (by omega)] at hq
                     have := hq _ (zMg_n hF1) hx.p
                     rw [show G.2.2.2.2.2 = 1 - h1 82 174 by omega] at this
                     exact this)
                  | (rw [if_neg (by omega), if_neg (by omega), if_neg (by omega), if_neg (by omega), if_neg (by omega), if_pos (by omega)] at hq
                     have := hq _ (zMg_n hF1) hx.p
                     have e5 := f1.2.2.1
                     cases eo : (zPt G).2
                     · rw [eo] at e5 this
                       have e5 : h1 81 16 = 0 := e5
                       first
                       | (exfalso; omega)
                       | (rw [if_neg (by decide), ← e15] at this
                          exact this)
                     · rw [eo] at e5 this
                       have e5 : h1 81 16 = 1 := e5
                       first
                       | (exfalso; omega)
                       | (rw [if_pos rfl] at this
                          exact this))
                  | (rw [if_neg (by omega), if_neg (by omega), if_neg (by omega), if_neg (by omega), if_neg (by omega), if_neg (by omega), if_pos (by omega)] at hq
                     exact hq _ (zMg_n hF1) hx.p)
                  | (rw [if_neg (by omega), if_neg (by omega), if_neg (by omega), if_neg (by omega), if_neg (by omega), if_neg (by omega), if_neg (by omega), if_pos (by omega)] at hq
                     exact hq _ ((zMg_n hF1).tr (zMg_p hF2)) (hx.P hF2).p)
                  | (rw [if_neg (by omega), if_neg (by omega), if_neg (by omega), if_neg (by omega), if_neg (by omega), if_neg (by omega), if_neg (by omega), if_neg (by omega)] at hq
                     exact hq _ (zMg_n hF1) hx.p)
                · intro c9
                  unfold zaR at hq
                  first
                  | (rw [if_pos (by assumption), ← hn1.1] at hq; exact hq _ (zMg_n hF1) hx.p)
                  | (rw [if_neg (by assumption), if_pos (by assumption), ← hn1.2.1] at hq; exact hq _ (zMg_n hF1) hx.p)
                  | (rw [if_neg (by assumption), if_neg (by assumption), if_pos (by assumption)] at hq
                     have := hq _ (zMg_n hF1) hx.p
                     rw [← f1.1] at this
                     exact this)
                  | (rw [if_neg (by assumption), if_neg (by assumption), if_neg (by assumption), if_pos (by assumption)] at hq; exact hq _ (zMg_n hF1) hx.p)
                  | (rw [if_neg (by omega), if_neg (by omega), if_neg (by omega), if_neg (by omega), if_pos (by omega)] at hq
                     have := hq _ (zMg_n hF1) hx.p
                     rw [show G.2.2.2.2.2 = 1 - h1 82 174 by omega] at this
                     exact this)
                  | (rw [if_neg (by omega), if_neg (by omega), if_neg (by omega), if_neg (by omega), if_neg (by omega), if_pos (by omega)] at hq
                     have := hq _ (zMg_n hF1) hx.p
                     have e5 := f1.2.2.1
                     cases eo : (zPt G).2
                     · rw [eo] at e5 this
                       have e5 : h1 81 16 = 0 := e5
                       first
                       | (exfalso; omega)
                       | (rw [if_neg (by decide), ← e15] at this
                          exact this)
                     · rw [eo] at e5 this
                       have e5 : h1 81 16 = 1 := e5
                       first
                       | (exfalso; omega)
                       | (rw [if_pos rfl] at this
                          exact this))
                  | (rw [if_neg (by omega), if_neg (by omega), if_neg (by omega), if_neg (by omega), if_neg (by omega), if_neg (by omega), if_pos (by omega)] at hq
                     exact hq _ (zMg_n hF1) hx.p)
                  | (rw [if_neg (by omega), if_neg (by omega), if_neg (by omega), if_neg (by omega), if_neg (by omega), if_neg (by omega), if_neg (by omega), if_pos (by omega)] at hq
                     exact hq _ ((zMg_n hF1).tr (zMg_p hF2)) (hx.P hF2).p)
                  | (rw [if_neg (by omega), if_neg (by omega), if_neg (by omega), if_neg (by omega), if_neg (by omega), if_neg (by omega), if_neg (by omega), if_neg (by omega)] at hq
                     exact hq _ (zMg_n hF1) hx.p)
set_option maxHeartbeats 4000000 in
set_option maxRecDepth 100000 in
/-- M.block -/
theorem s_89 {h : zM} {G : zG} (hp : zPm h 0 G) (hw : zWf G) (hm : zMp h G) {b w : Int} {Q : zQ} (hq : ∀ h2, zF zMg h h2 → zMp h2 G → Q (some (.inl (zaB G b w))) h2) : zR 89 [.inr (.inr 81), .inl b, .inl w] h Q := by
  have hn8 := hw.1
  have hn := hp.n
  refine zx_met0 zk_89 (Or.inr ⟨_, _, rfl, rfl⟩) (Nat.le_of_ble_eq_true rfl) 1000 (fun hok hM => ?_)
  refine s_83 (by omega) (fun a1 => ?_) (fun a1 => ?_)
  · refine And.intro (fun c => absurd c (by decide)) (fun _ => ?_)
    refine s_50 (fun a2 => ?_) (fun a2 => ?_)
    · refine And.intro (fun c => absurd c (by decide)) (fun _ => ?_)
      refine s_81p hp hw hm (fun h1 hF1 hx => ?_)
      have f1 := hx.2
      have n40 := (zPW_w hw).1
      have e15 := f1.2.2.2.1.1
      have hp1 : zPm h1 0 G := hp.fr (fun _ => hF1 _ _ rfl)
      have hn1 := hp1.n
      obtain ⟨k7, rfl⟩ : ∃ k7 : Nat, b = (k7 : Int) := ⟨b.toNat, by omega⟩
      obtain ⟨w7, rfl⟩ : ∃ w7 : Nat, w = (w7 : Int) := ⟨w.toNat, by omega⟩
      have hk7 : k7 < G.1 := by omega
      unfold zaB at hq
      rw [if_pos (by omega), Int.toNat_natCast, Int.toNat_natCast] at hq
      have g1 : h1 82 (128 + (k7 : Int)) = G.2.1 k7 1 := by
        have := hp1.2.2.1 k7 1 hk7 (by omega)
        rw [show (0 : Int) + (120 + 8 * ((1 : Nat) : Int) + (k7 : Int)) = 128 + (k7 : Int) by omega] at this
        exact this
      have gw : w7 < 6 → h1 82 (120 + 8 * (w7 : Int) + (k7 : Int)) = G.2.1 k7 w7 := by
        intro q
        have := hp1.2.2.1 k7 w7 hk7 q
        rw [Int.zero_add] at this
        exact this
      constructor
      · intro c1
        refine And.intro (by first | (show 0 ≤ _ ∧ _ < (40 : Int); omega) | (show 0 ≤ _ ∧ _ < (240 : Int); omega) | (show 0 ≤ _ ∧ _ < (8 : Int); omega) | (show 0 ≤ _ ∧ _ < (708 : Int); omega) | (show 0 ≤ _ ∧ _ < (4800 : Int); omega) | (show 0 ≤ _ ∧ _ < (800 : Int); omega)) ?_
        first
        | (unfold zaB at hq; rw [if_neg (by omega)] at hq; exact hq _ zF.rf hm)
        | (rw [if_neg (by omega), if_pos (by omega), ← f1.2.1 k7 (by omega)] at hq; exact hq _ (zMg_n hF1) hx.p)
        | (rw [if_pos (by omega), if_pos (by omega)] at hq; exact hq _ (zMg_n hF1) hx.p)
        | (have w0 : w7 = 0 := by omega
           subst w0
           rw [if_pos (by omega), if_neg (by omega), ← gw (by omega)] at hq
           exact hq _ (zMg_n hF1) hx.p)
        | (rw [if_neg (by omega), if_neg (by omega), ← gw (by omega)] at hq; exact hq _ (zMg_n hF1) hx.p)
      · intro c1
        constructor
        · intro c2
          refine And.intro (by omega) ?_
          refine And.intro (by first | (show 0 ≤ _ ∧ _ < (40 : Int); omega) | (show 0 ≤ _ ∧ _ < (240 : Int); omega) | (show 0 ≤ _ ∧ _ < (8 : Int); omega) | (show 0 ≤ _ ∧ _ < (708 : Int); omega) | (show 0 ≤ _ ∧ _ < (4800 : Int); omega) | (show 0 ≤ _ ∧ _ < (800 : Int); omega)) ?_
          constructor
          · intro c3
            first
            | (unfold zaB at hq; rw [if_neg (by omega)] at hq; exact hq _ zF.rf hm)
            | (rw [if_neg (by omega), if_pos (by omega), ← f1.2.1 k7 (by omega)] at hq; exact hq _ (zMg_n hF1) hx.p)
            | (rw [if_pos (by omega), if_pos (by omega)] at hq; exact hq _ (zMg_n hF1) hx.p)
            | (have w0 : w7 = 0 := by omega
               subst w0
               rw [if_pos (by omega), if_neg (by omega), ← gw (by omega)] at hq
               exact hq _ (zMg_n hF1) hx.p)
            | (rw [if_neg (by omega), if_neg (by omega), ← gw (by omega)] at hq; exact hq _ (zMg_n hF1) hx.p)
          · intro c3
            refine And.intro (by omega) ?_
            refine And.intro (by omega) ?_
            refine And.intro (by omega) ?_
            refine And.intro (by first | (show 0 ≤ _ ∧ _ < (40 : Int); omega) | (show 0 ≤ _ ∧ _ < (240 : Int); omega) | (show 0 ≤ _ ∧ _ < (8 : Int); omega) | (show 0 ≤ _ ∧ _ < (708 : Int); omega) | (show 0 ≤ _ ∧ _ < (4800 : Int); omega) | (show 0 ≤ _ ∧ _ < (800 : Int); omega)) ?_
            first
            | (unfold zaB at hq; rw [if_neg (by omega)] at hq; exact hq _ zF.rf hm)
            | (rw [if_neg (by omega), if_pos (by omega), ← f1.2.1 k7 (by omega)] at hq; exact hq _ (zMg_n hF1) hx.p)
            | (rw [if_pos (by omega), if_pos (by omega)] at hq; exact hq _ (zMg_n hF1) hx.p)
            | (have w0 : w7 = 0 := by omega
               subst w0
               rw [if_pos (by omega), if_neg (by omega), ← gw (by omega)] at hq
               exact hq _ (zMg_n hF1) hx.p)
            | (rw [if_neg (by omega), if_neg (by omega), ← gw (by omega)] at hq; exact hq _ (zMg_n hF1) hx.p)
        · intro c2
          refine And.intro (by omega) ?_
          refine And.intro (by omega) ?_
          refine And.intro (by omega) ?_
          refine And.intro (by first | (show 0 ≤ _ ∧ _ < (40 : Int); omega) | (show 0 ≤ _ ∧ _ < (240 : Int); omega) | (show 0 ≤ _ ∧ _ < (8 : Int); omega) | (show 0 ≤ _ ∧ _ < (708 : Int); omega) | (show 0 ≤ _ ∧ _ < (4800 : Int); omega) | (show 0 ≤ _ ∧ _ < (800 : Int); omega)) ?_
          first
          | (unfold zaB at hq; rw [if_neg (by omega)] at hq; exact hq _ zF.rf hm)
          | (rw [if_neg (by omega), if_pos (by omega), ← f1.2.1 k7 (by omega)] at hq; exact hq _ (zMg_n hF1) hx.p)
          | (rw [if_pos (by omega), if_pos (by omega)] at hq; exact hq _ (zMg_n hF1) hx.p)
          | (have w0 : w7 = 0 := by omega
             subst w0
             rw [if_pos (by omega), if_neg (by omega), ← gw (by omega)] at hq
             exact hq _ (zMg_n hF1) hx.p)
          | (rw [if_neg (by omega), if_neg (by omega), ← gw (by omega)] at hq; exact hq _ (zMg_n hF1) hx.p)
    · refine And.intro (fun _ => ?_) (fun c => absurd (by decide) c)
      first
      | (unfold zaB at hq; rw [if_neg (by omega)] at hq; exact hq _ zF.rf hm)
      | (rw [if_neg (by omega), if_pos (by omega), ← f1.2.1 k7 (by omega)] at hq; exact hq _ (zMg_n hF1) hx.p)
      | (rw [if_pos (by omega), if_pos (by omega)] at hq; exact hq _ (zMg_n hF1) hx.p)
      | (have w0 : w7 = 0 := by omega
         subst w0
         rw [if_pos (by omega), if_neg (by omega), ← gw (by omega)] at hq
         exact hq _ (zMg_n hF1) hx.p)
      | (rw [if_neg (by omega), if_neg (by omega), ← gw (by omega)] at hq; exact hq _ (zMg_n hF1) hx.p)
  · refine And.intro (fun _ => ?_) (fun c => absurd (by decide) c)
    first
    | (unfold zaB at hq; rw [if_neg (by omega)] at hq; exact hq _ zF.rf hm)
    | (rw [if_neg (by omega), if_pos (by omega), ← f1.2.1 k7 (by omega)] at hq; exact hq _ (zMg_n hF1) hx.p)
    | (rw [if_pos (by omega), if_pos (by omega)] at hq; exact hq _ (zMg_n hF1) hx.p)
    | (have w0 : w7 = 0 := by omega
       subst w0
       rw [if_pos (by omega), if_neg (by omega), ← gw (by omega)] at hq
       exact hq _ (zMg_n hF1) hx.p)
    | (rw [if_neg (by omega), if_neg (by omega), ← gw (by omega)] at hq; exact hq _ (zMg_n hF1) hx.p)
set_option maxHeartbeats 4000000 in
set_option maxRecDepth 100000 in
/-- M.leadsTo -/
theorem s_93 {h : zM} {W : zW} (hv : zVm h W) (hw : zWw W) {k : Int} {Q : zQ} (h1 : ∀ m : Nat, m < W.1 → (W.2.1 m 3 = k ∨ W.2.1 m 4 = k) → (∀ i, i < m → ¬ (W.2.1 i 3 = k ∨ W.2.1 i 4 = k)) → Q (some (.inl (m : Int))) h) (h0 : (∀ i, i < W.1 → ¬ (W.2.1 i 3 = k ∨ W.2.1 i 4 = k)) → Q (some (.inl (-4))) h) : zR 93 [.inr (.inr 81), .inl k] h Q := by
  have n40 := hw.1
  have e15 := hv.1
  refine zx_met zk_93 (Or.inr ⟨_, _, rfl, rfl⟩) (Nat.le_of_ble_eq_true rfl) (fun _ => false) 1000 (fun m j L S h2 => j = 2 ∧ S = [] ∧ h2 = h ∧ ∃ k7 : Nat, L = [some (.inr (.inr 81)), some (.inl k), some (.inl (k7 : Int))] ∧ k7 ≤ W.1 ∧ m = W.1 - k7 ∧ ∀ i, i < k7 → ¬ (W.2.1 i 3 = k ∨ W.2.1 i 4 = k)) (fun hok hM => ?_) (fun hok hM => ?_)
  · exact ⟨_, rfl, rfl, rfl, 0, rfl, by omega, rfl, fun i hi => by omega⟩
  · rintro m j L S h2 hM2 ⟨rfl, rfl, rfl, k7, rfl, hk, hm, hno⟩
    constructor
    · intro c1
      have hk7 : k7 < W.1 := by omega
      obtain ⟨-, -, e3, e4, -, -⟩ := hv.2 k7 hk7
      refine And.intro (by first | (show 0 ≤ _ ∧ _ < (40 : Int); omega) | (show 0 ≤ _ ∧ _ < (240 : Int); omega) | (show 0 ≤ _ ∧ _ < (8 : Int); omega) | (show 0 ≤ _ ∧ _ < (708 : Int); omega) | (show 0 ≤ _ ∧ _ < (4800 : Int); omega) | (show 0 ≤ _ ∧ _ < (800 : Int); omega)) ?_
      constructor
      · intro c2
        first
        | exact h0 (fun i hi => hno i (by omega))
        | exact h1 k7 (by omega) (by omega) hno
      · intro c2
        refine And.intro (by first | (show 0 ≤ _ ∧ _ < (40 : Int); omega) | (show 0 ≤ _ ∧ _ < (240 : Int); omega) | (show 0 ≤ _ ∧ _ < (8 : Int); omega) | (show 0 ≤ _ ∧ _ < (708 : Int); omega) | (show 0 ≤ _ ∧ _ < (4800 : Int); omega) | (show 0 ≤ _ ∧ _ < (800 : Int); omega)) ?_
        constructor
        · intro c3
          first
          | exact h0 (fun i hi => hno i (by omega))
          | exact h1 k7 (by omega) (by omega) hno
        · intro c3
          refine And.intro (by omega) ?_
          refine ⟨W.1 - (k7 + 1), by omega, rfl, rfl, rfl, k7 + 1, rfl, by omega, rfl, fun i hi => ?_⟩
          by_cases e : i = k7
          · subst e; omega
          · exact hno i (by omega)
    · intro c1
      first
      | exact h0 (fun i hi => hno i (by omega))
      | exact h1 k7 (by omega) (by omega) hno
/-- the first that leads is the one that was told -/
theorem s_93t {h : zM} {G : zG} (hw : zWf G) (hv : zVm h (zPW G)) {k : Nat} (hk : k < (zPW G).1) {Q : zQ} (hq : Q (some (.inl ((zPt G).1.2.2.2.1 k))) h) : zR 93 [.inr (.inr 81), .inl (k : Int)] h Q := by
  obtain ⟨v1, v2, v3⟩ := zPW_v hk
  have hl := (zPt_o hw v1).2 k v2
  have e1 : (zPW G).1 = (zPt G).1.1 := by rw [v3]
  have e2 : (zPW G).2.1 = (zPt G).1.2.2.2.2.1 := by rw [v3]
  unfold zld at hl
  refine s_93 hv (zPW_w hw) (fun m h1 h2 h3 => ?_) (fun h1 => ?_)
  · rw [e2] at h2 h3
    rw [e1] at h1
    rcases hl with ⟨a, b, c⟩ | ⟨m2, a, b, c, d⟩ | ⟨a, b, c⟩
    · exact absurd h2 (c m h1)
    · have hmm : m = m2 := by
        rcases Nat.lt_trichotomy m m2 with q | q | q
        · exact absurd h2 (d m q)
        · exact q
        · exact absurd c (h3 m2 q)
      rw [hmm, ← b]
      exact hq
    · exact b.elim
  · rw [e1, e2] at h1
    rcases hl with ⟨a, b, c⟩ | ⟨m2, a, b, c, d⟩ | ⟨a, b, c⟩
    · rw [a] at hq; exact hq
    · exact absurd c (h1 m2 a)
    · exact b.elim
set_option maxHeartbeats 4000000 in
set_option maxRecDepth 100000 in
/-- M.point -/
theorem s_94 {h : zM} {G : zG} (hp : zPm h 0 G) (hw : zWf G) (hm : zMp h G) (hc : zWc h) {k w : Int} {Q : zQ} (hq : ∀ h2, zF zMg h h2 → zMp h2 G → Q (some (.inl (zaP G k w))) h2) : zR 94 [.inr (.inr 81), .inl k, .inl w] h Q := by
  refine zx_met0 zk_94 (Or.inr ⟨_, _, rfl, rfl⟩) (Nat.le_of_ble_eq_true rfl) 1000 (fun hok hM => ?_)
  refine s_82 hp hw hm (fun h1 hF1 hx a1 => ?_) (fun h1 hF1 hx a1 => ?_)
  all_goals
    have f1 := hx.2
    have n40 := (zPW_w hw).1
    have e15 := f1.2.2.2.1.1
    have hp1 : zPm h1 0 G := hp.fr (fun _ => hF1 _ _ rfl)
    have hn1 := hp1.n
  · refine And.intro (fun c => absurd c (by decide)) (fun _ => ?_)
    obtain ⟨k7, rfl⟩ : ∃ k7 : Nat, k = (k7 : Int) := ⟨k.toNat, by omega⟩
    have hk7 : k7 < (zPW G).1 := by omega
    obtain ⟨v1, v2, v3⟩ := zPW_v hk7
    obtain ⟨g1, g3⟩ := f1.2.2.2.2 v1 k7 v2
    obtain ⟨d1, d2, d3, d4, d5, d6⟩ := f1.2.2.2.1.2 k7 hk7
    constructor
    · intro c1
      refine And.intro (by first | (show 0 ≤ _ ∧ _ < (40 : Int); omega) | (show 0 ≤ _ ∧ _ < (240 : Int); omega) | (show 0 ≤ _ ∧ _ < (8 : Int); omega) | (show 0 ≤ _ ∧ _ < (708 : Int); omega) | (show 0 ≤ _ ∧ _ < (4800 : Int); omega) | (show 0 ≤ _ ∧ _ < (800 : Int); omega)) ?_
      unfold zaP at hq
      first
      | (rw [if_neg (by omega)] at hq; exact hq _ (zMg_n hF1) hx.p)
      | (rw [if_pos (by omega), Int.toNat_natCast] at hq
         first
         | (rw [if_pos (by omega), ← g1] at hq; exact hq _ (zMg_n hF1) hx.p)
         | (rw [if_neg (by omega), if_pos (by omega)] at hq; exact hq _ (zMg_n hF1) hx.p)
         | (rw [if_neg (by omega), if_neg (by omega), if_pos (by omega)] at hq; exact hq _ ((zMg_n hF1).tr (zMg_p hF2)) (hx.P hF2).p)
         | (rw [if_neg (by omega), if_neg (by omega), if_neg (by omega)] at hq
            subst_vars
            have := hq _ (zMg_n hF1) hx.p
            first
            | (rw [show (1 : Int).toNat = 1 from rfl, ← d1] at this; exact this)
            | (rw [show (2 : Int).toNat = 2 from rfl, ← d2] at this; exact this)
            | (rw [show (3 : Int).toNat = 3 from rfl, ← d3] at this; exact this)
            | (rw [show (4 : Int).toNat = 4 from rfl, ← d4] at this; exact this)
            | (rw [show (5 : Int).toNat = 5 from rfl, ← d5] at this; exact this)))
    · intro c1
      constructor
      · intro c2
        refine And.intro (by first | (show 0 ≤ _ ∧ _ < (40 : Int); omega) | (show 0 ≤ _ ∧ _ < (240 : Int); omega) | (show 0 ≤ _ ∧ _ < (8 : Int); omega) | (show 0 ≤ _ ∧ _ < (708 : Int); omega) | (show 0 ≤ _ ∧ _ < (4800 : Int); omega) | (show 0 ≤ _ ∧ _ < (800 : Int); omega)) ?_
        unfold zaP at hq
        first
        | (rw [if_neg (by omega)] at hq; exact hq _ (zMg_n hF1) hx.p)
        | (rw [if_pos (by omega), Int.toNat_natCast] at hq
           first
           | (rw [if_pos (by omega), ← g1] at hq; exact hq _ (zMg_n hF1) hx.p)
           | (rw [if_neg (by omega), if_pos (by omega)] at hq; exact hq _ (zMg_n hF1) hx.p)
           | (rw [if_neg (by omega), if_neg (by omega), if_pos (by omega)] at hq; exact hq _ ((zMg_n hF1).tr (zMg_p hF2)) (hx.P hF2).p)
           | (rw [if_neg (by omega), if_neg (by omega), if_neg (by omega)] at hq
              subst_vars
              have := hq _ (zMg_n hF1) hx.p
              first
              | (rw [show (1 : Int).toNat = 1 from rfl, ← d1] at this; exact this)
              | (rw [show (2 : Int).toNat = 2 from rfl, ← d2] at this; exact this)
              | (rw [show (3 : Int).toNat = 3 from rfl, ← d3] at this; exact this)
              | (rw [show (4 : Int).toNat = 4 from rfl, ← d4] at this; exact this)
              | (rw [show (5 : Int).toNat = 5 from rfl, ← d5] at this; exact this)))
      · intro c2
        constructor
        · intro c3
          refine And.intro (by first | (show 0 ≤ _ ∧ _ < (40 : Int); omega) | (show 0 ≤ _ ∧ _ < (240 : Int); omega) | (show 0 ≤ _ ∧ _ < (8 : Int); omega) | (show 0 ≤ _ ∧ _ < (708 : Int); omega) | (show 0 ≤ _ ∧ _ < (4800 : Int); omega) | (show 0 ≤ _ ∧ _ < (800 : Int); omega)) ?_
          unfold zaP at hq
          first
          | (rw [if_neg (by omega)] at hq; exact hq _ (zMg_n hF1) hx.p)
          | (rw [if_pos (by omega), Int.toNat_natCast] at hq
             first
             | (rw [if_pos (by omega), ← g1] at hq; exact hq _ (zMg_n hF1) hx.p)
             | (rw [if_neg (by omega), if_pos (by omega)] at hq; exact hq _ (zMg_n hF1) hx.p)
             | (rw [if_neg (by omega), if_neg (by omega), if_pos (by omega)] at hq; exact hq _ ((zMg_n hF1).tr (zMg_p hF2)) (hx.P hF2).p)
             | (rw [if_neg (by omega), if_neg (by omega), if_neg (by omega)] at hq
                subst_vars
                have := hq _ (zMg_n hF1) hx.p
                first
                | (rw [show (1 : Int).toNat = 1 from rfl, ← d1] at this; exact this)
                | (rw [show (2 : Int).toNat = 2 from rfl, ← d2] at this; exact this)
                | (rw [show (3 : Int).toNat = 3 from rfl, ← d3] at this; exact this)
                | (rw [show (4 : Int).toNat = 4 from rfl, ← d4] at this; exact this)
                | (rw [show (5 : Int).toNat = 5 from rfl, ← d5] at this; exact this)))
        · intro c3
          constructor
          · intro c4
            refine And.intro (by first | (show 0 ≤ _ ∧ _ < (40 : Int); omega) | (show 0 ≤ _ ∧ _ < (240 : Int); omega) | (show 0 ≤ _ ∧ _ < (8 : Int); omega) | (show 0 ≤ _ ∧ _ < (708 : Int); omega) | (show 0 ≤ _ ∧ _ < (4800 : Int); omega) | (show 0 ≤ _ ∧ _ < (800 : Int); omega)) ?_
            unfold zaP at hq
            first
            | (rw [if_neg (by omega)] at hq; exact hq _ (zMg_n hF1) hx.p)
            | (rw [if_pos (by omega), Int.toNat_natCast] at hq
               first
               | (rw [if_pos (by omega), ← g1] at hq; exact hq _ (zMg_n hF1) hx.p)
               | (rw [if_neg (by omega), if_pos (by omega)] at hq; exact hq _ (zMg_n hF1) hx.p)
               | (rw [if_neg (by omega), if_neg (by omega), if_pos (by omega)] at hq; exact hq _ ((zMg_n hF1).tr (zMg_p hF2)) (hx.P hF2).p)
               | (rw [if_neg (by omega), if_neg (by omega), if_neg (by omega)] at hq
                  subst_vars
                  have := hq _ (zMg_n hF1) hx.p
                  first
                  | (rw [show (1 : Int).toNat = 1 from rfl, ← d1] at this; exact this)
                  | (rw [show (2 : Int).toNat = 2 from rfl, ← d2] at this; exact this)
                  | (rw [show (3 : Int).toNat = 3 from rfl, ← d3] at this; exact this)
                  | (rw [show (4 : Int).toNat = 4 from rfl, ← d4] at this; exact this)
                  | (rw [show (5 : Int).toNat = 5 from rfl, ← d5] at this; exact this)))
          · intro c4
            constructor
            · intro c5
              refine And.intro (by first | (show 0 ≤ _ ∧ _ < (40 : Int); omega) | (show 0 ≤ _ ∧ _ < (240 : Int); omega) | (show 0 ≤ _ ∧ _ < (8 : Int); omega) | (show 0 ≤ _ ∧ _ < (708 : Int); omega) | (show 0 ≤ _ ∧ _ < (4800 : Int); omega) | (show 0 ≤ _ ∧ _ < (800 : Int); omega)) ?_
              unfold zaP at hq
              first
              | (rw [if_neg (by omega)] at hq; exact hq _ (zMg_n hF1) hx.p)
              | (rw [if_pos (by omega), Int.toNat_natCast] at hq
                 first
                 | (rw [if_pos (by omega), ← g1] at hq; exact hq _ (zMg_n hF1) hx.p)
                 | (rw [if_neg (by omega), if_pos (by omega)] at hq; exact hq _ (zMg_n hF1) hx.p)
                 | (rw [if_neg (by omega), if_neg (by omega), if_pos (by omega)] at hq; exact hq _ ((zMg_n hF1).tr (zMg_p hF2)) (hx.P hF2).p)
                 | (rw [if_neg (by omega), if_neg (by omega), if_neg (by omega)] at hq
                    subst_vars
                    have := hq _ (zMg_n hF1) hx.p
                    first
                    | (rw [show (1 : Int).toNat = 1 from rfl, ← d1] at this; exact this)
                    | (rw [show (2 : Int).toNat = 2 from rfl, ← d2] at this; exact this)
                    | (rw [show (3 : Int).toNat = 3 from rfl, ← d3] at this; exact this)
                    | (rw [show (4 : Int).toNat = 4 from rfl, ← d4] at this; exact this)
                    | (rw [show (5 : Int).toNat = 5 from rfl, ← d5] at this; exact this)))
            · intro c5
              constructor
              · intro c6
                refine And.intro (by first | (show 0 ≤ _ ∧ _ < (40 : Int); omega) | (show 0 ≤ _ ∧ _ < (240 : Int); omega) | (show 0 ≤ _ ∧ _ < (8 : Int); omega) | (show 0 ≤ _ ∧ _ < (708 : Int); omega) | (show 0 ≤ _ ∧ _ < (4800 : Int); omega) | (show 0 ≤ _ ∧ _ < (800 : Int); omega)) ?_
                unfold zaP at hq
                first
                | (rw [if_neg (by omega)] at hq; exact hq _ (zMg_n hF1) hx.p)
                | (rw [if_pos (by omega), Int.toNat_natCast] at hq
                   first
                   | (rw [if_pos (by omega), ← g1] at hq; exact hq _ (zMg_n hF1) hx.p)
                   | (rw [if_neg (by omega), if_pos (by omega)] at hq; exact hq _ (zMg_n hF1) hx.p)
                   | (rw [if_neg (by omega), if_neg (by omega), if_pos (by omega)] at hq; exact hq _ ((zMg_n hF1).tr (zMg_p hF2)) (hx.P hF2).p)
                   | (rw [if_neg (by omega), if_neg (by omega), if_neg (by omega)] at hq
                      subst_vars
                      have := hq _ (zMg_n hF1) hx.p
                      first
                      | (rw [show (1 : Int).toNat = 1 from rfl, ← d1] at this; exact this)
                      | (rw [show (2 : Int).toNat = 2 from rfl, ← d2] at this; exact this)
                      | (rw [show (3 : Int).toNat = 3 from rfl, ← d3] at this; exact this)
                      | (rw [show (4 : Int).toNat = 4 from rfl, ← d4] at this; exact this)
                      | (rw [show (5 : Int).toNat = 5 from rfl, ← d5] at this; exact this)))
              · intro c6
                constructor
                · intro c7
                  refine s_93t hw f1.2.2.2.1 hk7 ?_
                  unfold zaP at hq
                  first
                  | (rw [if_neg (by omega)] at hq; exact hq _ (zMg_n hF1) hx.p)
                  | (rw [if_pos (by omega), Int.toNat_natCast] at hq
                     first
                     | (rw [if_pos (by omega), ← g1] at hq; exact hq _ (zMg_n hF1) hx.p)
                     | (rw [if_neg (by omega), if_pos (by omega)] at hq; exact hq _ (zMg_n hF1) hx.p)
                     | (rw [if_neg (by omega), if_neg (by omega), if_pos (by omega)] at hq; exact hq _ ((zMg_n hF1).tr (zMg_p hF2)) (hx.P hF2).p)
                     | (rw [if_neg (by omega), if_neg (by omega), if_neg (by omega)] at hq
                        subst_vars
                        have := hq _ (zMg_n hF1) hx.p
                        first
                        | (rw [show (1 : Int).toNat = 1 from rfl, ← d1] at this; exact this)
                        | (rw [show (2 : Int).toNat = 2 from rfl, ← d2] at this; exact this)
                        | (rw [show (3 : Int).toNat = 3 from rfl, ← d3] at this; exact this)
                        | (rw [show (4 : Int).toNat = 4 from rfl, ← d4] at this; exact this)
                        | (rw [show (5 : Int).toNat = 5 from rfl, ← d5] at this; exact this)))
                · intro c7
                  constructor
                  · intro c8
                    refine s_103 (hc.fr (fun _ => hF1 _ _ rfl) (fun _ => hF1 _ _ rfl)) f1.2.2.2.1 (zPW_w hw) hk7 (fun h2 hF2 hs => ?_)
                    unfold zaP at hq
                    first
                    | (rw [if_neg (by omega)] at hq; exact hq _ (zMg_n hF1) hx.p)
                    | (rw [if_pos (by omega), Int.toNat_natCast] at hq
                       first
                       | (rw [if_pos (by omega), ← g1] at hq; exact hq _ (zMg_n hF1) hx.p)
                       | (rw [if_neg (by omega), if_pos (by omega)] at hq; exact hq _ (zMg_n hF1) hx.p)
                       | (rw [if_neg (by omega), if_neg (by omega), if_pos (by omega)] at hq; exact hq _ ((zMg_n hF1).tr (zMg_p hF2)) (hx.P hF2).p)
                       | (rw [if_neg (by omega), if_neg (by omega), if_neg (by omega)] at hq
                          subst_vars
                          have := hq _ (zMg_n hF1) hx.p
                          first
                          | (rw [show (1 : Int).toNat = 1 from rfl, ← d1] at this; exact this)
                          | (rw [show (2 : Int).toNat = 2 from rfl, ← d2] at this; exact this)
                          | (rw [show (3 : Int).toNat = 3 from rfl, ← d3] at this; exact this)
                          | (rw [show (4 : Int).toNat = 4 from rfl, ← d4] at this; exact this)
                          | (rw [show (5 : Int).toNat = 5 from rfl, ← d5] at this; exact this)))
                  · intro c8
                    unfold zaP at hq
                    first
                    | (rw [if_neg (by omega)] at hq; exact hq _ (zMg_n hF1) hx.p)
                    | (rw [if_pos (by omega), Int.toNat_natCast] at hq
                       first
                       | (rw [if_pos (by omega), ← g1] at hq; exact hq _ (zMg_n hF1) hx.p)
                       | (rw [if_neg (by omega), if_pos (by omega)] at hq; exact hq _ (zMg_n hF1) hx.p)
                       | (rw [if_neg (by omega), if_neg (by omega), if_pos (by omega)] at hq; exact hq _ ((zMg_n hF1).tr (zMg_p hF2)) (hx.P hF2).p)
                       | (rw [if_neg (by omega), if_neg (by omega), if_neg (by omega)] at hq
                          subst_vars
                          have := hq _ (zMg_n hF1) hx.p
                          first
                          | (rw [show (1 : Int).toNat = 1 from rfl, ← d1] at this; exact this)
                          | (rw [show (2 : Int).toNat = 2 from rfl, ← d2] at this; exact this)
                          | (rw [show (3 : Int).toNat = 3 from rfl, ← d3] at this; exact this)
                          | (rw [show (4 : Int).toNat = 4 from rfl, ← d4] at this; exact this)
                          | (rw [show (5 : Int).toNat = 5 from rfl, ← d5] at this; exact this)))
  · refine And.intro (fun _ => ?_) (fun c => absurd (by decide) c)
    unfold zaP at hq
    first
    | (rw [if_neg (by omega)] at hq; exact hq _ (zMg_n hF1) hx.p)
    | (rw [if_pos (by omega), Int.toNat_natCast] at hq
       first
       | (rw [if_pos (by omega), ← g1] at hq; exact hq _ (zMg_n hF1) hx.p)
       | (rw [if_neg (by omega), if_pos (by omega)] at hq; exact hq _ (zMg_n hF1) hx.p)
       | (rw [if_neg (by omega), if_neg (by omega), if_pos (by omega)] at hq; exact hq _ ((zMg_n hF1).tr (zMg_p hF2)) (hx.P hF2).p)
       | (rw [if_neg (by omega), if_neg (by omega), if_neg (by omega)] at hq
          subst_vars
          have := hq _ (zMg_n hF1) hx.p
          first
          | (rw [show (1 : Int).toNat = 1 from rfl, ← d1] at this; exact this)
          | (rw [show (2 : Int).toNat = 2 from rfl, ← d2] at this; exact this)
          | (rw [show (3 : Int).toNat = 3 from rfl, ← d3] at this; exact this)
          | (rw [show (4 : Int).toNat = 4 from rfl, ← d4] at this; exact this)
          | (rw [show (5 : Int).toNat = 5 from rfl, ← d5] at this; exact this)))
set_option maxHeartbeats 4000000 in
set_option maxRecDepth 100000 in
/-- M.held -/
theorem s_95 {h : zM} {G : zG} (hp : zPm h 0 G) (hw : zWf G) (hm : zMp h G) {k v : Int} {Q : zQ} (hq : ∀ h2, zF zMg h h2 → zMp h2 G → Q (some (.inl (zaH G k v))) h2) : zR 95 [.inr (.inr 81), .inl k, .inl v] h Q := by
  refine zx_met0 zk_95 (Or.inr ⟨_, _, rfl, rfl⟩) (Nat.le_of_ble_eq_true rfl) 1000 (fun hok hM => ?_)
  refine s_82 hp hw hm (fun h1 hF1 hx a1 => ?_) (fun h1 hF1 hx a1 => ?_)
  all_goals
    have f1 := hx.2
    have n40 := (zPW_w hw).1
    have e15 := f1.2.2.2.1.1
    have hp1 : zPm h1 0 G := hp.fr (fun _ => hF1 _ _ rfl)
    have hn1 := hp1.n
  · refine And.intro (fun c => absurd c (by decide)) (fun _ => ?_)
    refine s_85 (fun a2 => ?_) (fun a2 => ?_)
    · refine And.intro (fun c => absurd c (by decide)) (fun _ => ?_)
      obtain ⟨k7, rfl⟩ : ∃ k7 : Nat, k = (k7 : Int) := ⟨k.toNat, by omega⟩
      have hk7 : k7 < (zPW G).1 := by omega
      obtain ⟨v1, v2, v3⟩ := zPW_v hk7
      obtain ⟨g1, g3⟩ := f1.2.2.2.2 v1 k7 v2
      obtain ⟨d1, d2, d3, d4, d5, d6⟩ := f1.2.2.2.1.2 k7 hk7
      unfold zaH at hq
      rw [if_pos (by omega), Int.toNat_natCast] at hq
      have hz : zx_and (zx_shr (h1 81 12) v) 1 = 0 ↔ Nat.testBit (zUG G) v.toNat = false := by
        have hz := zB_bit _ (zUG_b hw) v.toNat (by omega)
        rw [Int.toNat_of_nonneg (by omega)] at hz
        rw [f1.1]
        exact hz
      have h01 := zand1 (zx_shr (h1 81 12) v)
      constructor
      · intro c1
        first
        | (unfold zaH at hq; rw [if_neg (by omega)] at hq; exact hq _ (zMg_n hF1) hx.p)
        | (rw [if_neg (by rw [hz.mp (by omega)]; decide), ← g3 v (by omega) (by omega)] at hq; exact hq _ (zMg_n hF1) hx.p)
        | (have ht : Nat.testBit (zUG G) v.toNat = true := by
             cases e : Nat.testBit (zUG G) v.toNat
             · have := hz.mpr e
               omega
             · rfl
           rw [if_pos ht] at hq; exact hq _ (zMg_n hF1) hx.p)
      · intro c1
        refine And.intro (by omega) ?_
        refine And.intro (by omega) ?_
        refine And.intro (by first | (show 0 ≤ _ ∧ _ < (40 : Int); omega) | (show 0 ≤ _ ∧ _ < (240 : Int); omega) | (show 0 ≤ _ ∧ _ < (8 : Int); omega) | (show 0 ≤ _ ∧ _ < (708 : Int); omega) | (show 0 ≤ _ ∧ _ < (4800 : Int); omega) | (show 0 ≤ _ ∧ _ < (800 : Int); omega)) ?_
        first
        | (unfold zaH at hq; rw [if_neg (by omega)] at hq; exact hq _ (zMg_n hF1) hx.p)
        | (rw [if_neg (by rw [hz.mp (by omega)]; decide), ← g3 v (by omega) (by omega)] at hq; exact hq _ (zMg_n hF1) hx.p)
        | (have ht : Nat.testBit (zUG G) v.toNat = true := by
             cases e : Nat.testBit (zUG G) v.toNat
             · have := hz.mpr e
               omega
             · rfl
           rw [if_pos ht] at hq; exact hq _ (zMg_n hF1) hx.p)
    · refine And.intro (fun _ => ?_) (fun c => absurd (by decide) c)
      first
      | (unfold zaH at hq; rw [if_neg (by omega)] at hq; exact hq _ (zMg_n hF1) hx.p)
      | (rw [if_neg (by rw [hz.mp (by omega)]; decide), ← g3 v (by omega) (by omega)] at hq; exact hq _ (zMg_n hF1) hx.p)
      | (have ht : Nat.testBit (zUG G) v.toNat = true := by
           cases e : Nat.testBit (zUG G) v.toNat
           · have := hz.mpr e
             omega
           · rfl
         rw [if_pos ht] at hq; exact hq _ (zMg_n hF1) hx.p)
  · refine And.intro (fun _ => ?_) (fun c => absurd (by decide) c)
    first
    | (unfold zaH at hq; rw [if_neg (by omega)] at hq; exact hq _ (zMg_n hF1) hx.p)
    | (rw [if_neg (by rw [hz.mp (by omega)]; decide), ← g3 v (by omega) (by omega)] at hq; exact hq _ (zMg_n hF1) hx.p)
    | (have ht : Nat.testBit (zUG G) v.toNat = true := by
         cases e : Nat.testBit (zUG G) v.toNat
         · have := hz.mpr e
           omega
         · rfl
       rw [if_pos ht] at hq; exact hq _ (zMg_n hF1) hx.p)
set_option maxHeartbeats 4000000 in
set_option maxRecDepth 100000 in
/-- M.left -/
theorem s_96 {h : zM} {G : zG} (hp : zPm h 0 G) (hw : zWf G) (hm : zMp h G) {k i w : Int} {Q : zQ} (hq : ∀ h2, zF zMg h h2 → zMp h2 G → Q (some (.inl (zaL G k i w))) h2) : zR 96 [.inr (.inr 81), .inl k, .inl i, .inl w] h Q := by
  refine zx_met0 zk_96 (Or.inr ⟨_, _, rfl, rfl⟩) (Nat.le_of_ble_eq_true rfl) 1000 (fun hok hM => ?_)
  refine s_82 hp hw hm (fun h1 hF1 hx a1 => ?_) (fun h1 hF1 hx a1 => ?_)
  all_goals
    have f1 := hx.2
    have n40 := (zPW_w hw).1
    have e15 := f1.2.2.2.1.1
    have hp1 : zPm h1 0 G := hp.fr (fun _ => hF1 _ _ rfl)
    have hn1 := hp1.n
  · refine And.intro (fun c => absurd c (by decide)) (fun _ => ?_)
    obtain ⟨k7, rfl⟩ : ∃ k7 : Nat, k = (k7 : Int) := ⟨k.toNat, by omega⟩
    have hk7 : k7 < (zPW G).1 := by omega
    obtain ⟨v1, v2, v3⟩ := zPW_v hk7
    obtain ⟨g1, g3⟩ := f1.2.2.2.2 v1 k7 v2
    obtain ⟨d1, d2, d3, d4, d5, d6⟩ := f1.2.2.2.1.2 k7 hk7
    have hcn := ((zPW_w hw).2 k7 hk7).1
    refine And.intro (by first | (show 0 ≤ _ ∧ _ < (40 : Int); omega) | (show 0 ≤ _ ∧ _ < (240 : Int); omega) | (show 0 ≤ _ ∧ _ < (8 : Int); omega) | (show 0 ≤ _ ∧ _ < (708 : Int); omega) | (show 0 ≤ _ ∧ _ < (4800 : Int); omega) | (show 0 ≤ _ ∧ _ < (800 : Int); omega)) ?_
    refine And.intro (by omega) ?_
    refine s_50 (fun a2 => ?_) (fun a2 => ?_)
    · refine And.intro (fun c => absurd c (by decide)) (fun _ => ?_)
      refine s_50 (fun a3 => ?_) (fun a3 => ?_)
      · refine And.intro (fun c => absurd c (by decide)) (fun _ => ?_)
        refine And.intro (by omega) ?_
        refine And.intro (by omega) ?_
        refine And.intro (by omega) ?_
        refine And.intro (by omega) ?_
        refine And.intro (by first | (show 0 ≤ _ ∧ _ < (40 : Int); omega) | (show 0 ≤ _ ∧ _ < (240 : Int); omega) | (show 0 ≤ _ ∧ _ < (8 : Int); omega) | (show 0 ≤ _ ∧ _ < (708 : Int); omega) | (show 0 ≤ _ ∧ _ < (4800 : Int); omega) | (show 0 ≤ _ ∧ _ < (800 : Int); omega)) ?_
        first
        | (unfold zaL at hq; rw [if_neg (by omega)] at hq; exact hq _ (zMg_n hF1) hx.p)
        | (unfold zaL at hq; rw [Int.toNat_natCast, if_neg (by omega)] at hq; exact hq _ (zMg_n hF1) hx.p)
        | (obtain ⟨i7, rfl⟩ : ∃ i7 : Nat, i = (i7 : Int) := ⟨i.toNat, by omega⟩
           obtain ⟨w7, rfl⟩ : ∃ w7 : Nat, w = (w7 : Int) := ⟨w.toNat, by omega⟩
           unfold zaL at hq
           rw [Int.toNat_natCast, if_pos (by omega), Int.toNat_natCast, Int.toNat_natCast, ← d6 i7 w7 (by omega) (by omega)] at hq
           exact hq _ (zMg_n hF1) hx.p)
      · refine And.intro (fun _ => ?_) (fun c => absurd (by decide) c)
        first
        | (unfold zaL at hq; rw [if_neg (by omega)] at hq; exact hq _ (zMg_n hF1) hx.p)
        | (unfold zaL at hq; rw [Int.toNat_natCast, if_neg (by omega)] at hq; exact hq _ (zMg_n hF1) hx.p)
        | (obtain ⟨i7, rfl⟩ : ∃ i7 : Nat, i = (i7 : Int) := ⟨i.toNat, by omega⟩
           obtain ⟨w7, rfl⟩ : ∃ w7 : Nat, w = (w7 : Int) := ⟨w.toNat, by omega⟩
           unfold zaL at hq
           rw [Int.toNat_natCast, if_pos (by omega), Int.toNat_natCast, Int.toNat_natCast, ← d6 i7 w7 (by omega) (by omega)] at hq
           exact hq _ (zMg_n hF1) hx.p)
    · refine And.intro (fun _ => ?_) (fun c => absurd (by decide) c)
      first
      | (unfold zaL at hq; rw [if_neg (by omega)] at hq; exact hq _ (zMg_n hF1) hx.p)
      | (unfold zaL at hq; rw [Int.toNat_natCast, if_neg (by omega)] at hq; exact hq _ (zMg_n hF1) hx.p)
      | (obtain ⟨i7, rfl⟩ : ∃ i7 : Nat, i = (i7 : Int) := ⟨i.toNat, by omega⟩
         obtain ⟨w7, rfl⟩ : ∃ w7 : Nat, w = (w7 : Int) := ⟨w.toNat, by omega⟩
         unfold zaL at hq
         rw [Int.toNat_natCast, if_pos (by omega), Int.toNat_natCast, Int.toNat_natCast, ← d6 i7 w7 (by omega) (by omega)] at hq
         exact hq _ (zMg_n hF1) hx.p)
  · refine And.intro (fun _ => ?_) (fun c => absurd (by decide) c)
    first
    | (unfold zaL at hq; rw [if_neg (by omega)] at hq; exact hq _ (zMg_n hF1) hx.p)
    | (unfold zaL at hq; rw [Int.toNat_natCast, if_neg (by omega)] at hq; exact hq _ (zMg_n hF1) hx.p)
    | (obtain ⟨i7, rfl⟩ : ∃ i7 : Nat, i = (i7 : Int) := ⟨i.toNat, by omega⟩
       obtain ⟨w7, rfl⟩ : ∃ w7 : Nat, w = (w7 : Int) := ⟨w.toNat, by omega⟩
       unfold zaL at hq
       rw [Int.toNat_natCast, if_pos (by omega), Int.toNat_natCast, Int.toNat_natCast, ← d6 i7 w7 (by omega) (by omega)] at hq
       exact hq _ (zMg_n hF1) hx.p)
set_option maxHeartbeats 4000000 in
set_option maxRecDepth 100000 in
/-- M.shown -/
theorem s_104 {h : zM} {G : zG} (hp : zPm h 0 G) (hw : zWf G) (hm : zMp h G) (hc : zWc h) {k i : Int} {Q : zQ} (hq : ∀ h2, zF zMg h h2 → zMp h2 G → Q (some (.inl (zaS G k i))) h2) : zR 104 [.inr (.inr 81), .inl k, .inl i] h Q := by
  refine zx_met0 zk_104 (Or.inr ⟨_, _, rfl, rfl⟩) (Nat.le_of_ble_eq_true rfl) 1000 (fun hok hM => ?_)
  refine s_82 hp hw hm (fun h1 hF1 hx a1 => ?_) (fun h1 hF1 hx a1 => ?_)
  all_goals
    have f1 := hx.2
    have n40 := (zPW_w hw).1
    have e15 := f1.2.2.2.1.1
    have hp1 : zPm h1 0 G := hp.fr (fun _ => hF1 _ _ rfl)
    have hn1 := hp1.n
  · refine And.intro (fun c => absurd c (by decide)) (fun _ => ?_)
    obtain ⟨k7, rfl⟩ : ∃ k7 : Nat, k = (k7 : Int) := ⟨k.toNat, by omega⟩
    have hk7 : k7 < (zPW G).1 := by omega
    obtain ⟨v1, v2, v3⟩ := zPW_v hk7
    obtain ⟨g1, g3⟩ := f1.2.2.2.2 v1 k7 v2
    obtain ⟨d1, d2, d3, d4, d5, d6⟩ := f1.2.2.2.1.2 k7 hk7
    have hln := zshw_l (zPW_w hw) hk7
    refine s_103 (hc.fr (fun _ => hF1 _ _ rfl) (fun _ => hF1 _ _ rfl)) f1.2.2.2.1 (zPW_w hw) hk7 (fun h2 hF2 hs => ?_)
    refine And.intro (by omega) ?_
    refine s_50 (fun a2 => ?_) (fun a2 => ?_)
    · refine And.intro (fun c => absurd c (by decide)) (fun _ => ?_)
      refine And.intro (by first | (show 0 ≤ _ ∧ _ < (40 : Int); omega) | (show 0 ≤ _ ∧ _ < (240 : Int); omega) | (show 0 ≤ _ ∧ _ < (8 : Int); omega) | (show 0 ≤ _ ∧ _ < (708 : Int); omega) | (show 0 ≤ _ ∧ _ < (4800 : Int); omega) | (show 0 ≤ _ ∧ _ < (800 : Int); omega)) ?_
      first
      | (unfold zaS at hq; rw [if_neg (by omega)] at hq; exact hq _ (zMg_n hF1) hx.p)
      | (unfold zaS at hq; rw [Int.toNat_natCast, if_neg (by omega)] at hq; exact hq _ ((zMg_n hF1).tr (zMg_p hF2)) (hx.P hF2).p)
      | (obtain ⟨i7, rfl⟩ : ∃ i7 : Nat, i = (i7 : Int) := ⟨i.toNat, by omega⟩
         unfold zaS at hq
         rw [Int.toNat_natCast, if_pos (by omega), Int.toNat_natCast, ← hs.2 i7 (by omega)] at hq
         exact hq _ ((zMg_n hF1).tr (zMg_p hF2)) (hx.P hF2).p)
    · refine And.intro (fun _ => ?_) (fun c => absurd (by decide) c)
      first
      | (unfold zaS at hq; rw [if_neg (by omega)] at hq; exact hq _ (zMg_n hF1) hx.p)
      | (unfold zaS at hq; rw [Int.toNat_natCast, if_neg (by omega)] at hq; exact hq _ ((zMg_n hF1).tr (zMg_p hF2)) (hx.P hF2).p)
      | (obtain ⟨i7, rfl⟩ : ∃ i7 : Nat, i = (i7 : Int) := ⟨i.toNat, by omega⟩
         unfold zaS at hq
         rw [Int.toNat_natCast, if_pos (by omega), Int.toNat_natCast, ← hs.2 i7 (by omega)] at hq
         exact hq _ ((zMg_n hF1).tr (zMg_p hF2)) (hx.P hF2).p)
  · refine And.intro (fun _ => ?_) (fun c => absurd (by decide) c)
    first
    | (unfold zaS at hq; rw [if_neg (by omega)] at hq; exact hq _ (zMg_n hF1) hx.p)
    | (unfold zaS at hq; rw [Int.toNat_natCast, if_neg (by omega)] at hq; exact hq _ ((zMg_n hF1).tr (zMg_p hF2)) (hx.P hF2).p)
    | (obtain ⟨i7, rfl⟩ : ∃ i7 : Nat, i = (i7 : Int) := ⟨i.toNat, by omega⟩
       unfold zaS at hq
       rw [Int.toNat_natCast, if_pos (by omega), Int.toNat_natCast, ← hs.2 i7 (by omega)] at hq
       exact hq _ ((zMg_n hF1).tr (zMg_p hF2)) (hx.P hF2).p)
