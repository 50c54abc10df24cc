/-! The class's calls that ask for points -/
theorem zFc.fr {h h2 : zM} {G : zG} (hf : zFc h G) (e : ∀ r k, (36 ≤ r ∧ r ≤ 43) ∨ (52 ≤ r ∧ r ≤ 57) → h2 r k = h r k) : zFc h2 G := by
  obtain ⟨a, b, c, d, f, g⟩ := hf
  refine ⟨(e _ _ (by omega)).trans a, fun x hx => (e _ _ (by omega)).trans (b x hx), (e _ _ (by omega)).trans c, d.fr (fun w k hw => e _ _ (by omega)), (e _ _ (by omega)).trans f, fun q j hj => ?_⟩
  obtain ⟨g1, g2, g3⟩ := g q j hj
  exact ⟨(e _ _ (by omega)).trans g1, (e _ _ (by omega)).trans g2, fun v h0 h6 => (e _ _ (by omega)).trans (g3 v h0 h6)⟩
/-- the class's points, if they are fresh -/
def zCx (h : zM) (G : zG) : Prop := h 0 16 = 0 ∧ zFc h G ∧ (h 0 14 = -4 ∨ ∃ k : Nat, k < (zPW G).1 ∧ h 0 14 = (k : Int) ∧ zLt h 60 (zshw (zPW G) k))
def zCp (h : zM) (G : zG) : Prop := (h 0 16 = 0 ∨ h 0 16 = 1) ∧ (h 0 16 = 0 → zCx h G)
theorem zCx.p {h : zM} {G : zG} (hc : zCx h G) : zCp h G := ⟨Or.inl hc.1, fun _ => hc⟩
def zCf : Nat → Int → Bool := fun r k => zNf r k || (Nat.ble 60 r && Nat.ble r 63) || (Nat.beq r 0 && (decide (k = 14) || decide (k = 16)))
theorem zCf_N {h h2 : zM} (hF : zF zNf h h2) : zF zCf h h2 := hF.mono (fun r j hf => by
  unfold zCf at hf
  simp only [Bool.or_eq_false_iff] at hf
  exact hf.1.1)
theorem zCf_L {h h2 : zM} {b : Nat} (hb : zLb b) (hF : zF (zLf b) h h2) : zF zCf h h2 := hF.mono (fun r j hf => by
  unfold zCf at hf
  simp only [Bool.or_eq_false_iff] at hf
  have hf := hf.1.2
  unfold zLf
  have key : ∀ q : Nat, 60 ≤ q → q ≤ 63 → Nat.beq r q = false := by
    intro q q1 q2
    refine zbeq_ne (fun e => ?_)
    subst e
    rw [Nat.ble_eq.mpr q1, Nat.ble_eq.mpr q2] at hf
    cases hf
  rcases hb with rfl | rfl
  · rw [key 60 (by omega) (by omega), key (60 + 1) (by omega) (by omega)]; rfl
  · rw [key 62 (by omega) (by omega), key (62 + 1) (by omega) (by omega)]; rfl)
theorem zCf_n {r : Nat} {k : Int} (h : (0 < r ∧ r < 36) ∨ r = 44 ∨ r = 45 ∨ 64 ≤ r) : zCf r k = false := by
  unfold zCf zNf
  have h1 : zQf r k = false := by
    unfold zQf
    have q1 : (Nat.ble 36 r && Nat.ble r 43) = false := by
      cases e1 : Nat.ble 36 r
      · rfl
      · cases e2 : Nat.ble r 43
        · rfl
        · have := Nat.ble_eq.mp e1; have := Nat.ble_eq.mp e2; omega
    have q2 : (Nat.ble 55 r && Nat.ble r 59) = false := by
      cases e1 : Nat.ble 55 r
      · rfl
      · cases e2 : Nat.ble r 59
        · rfl
        · have := Nat.ble_eq.mp e1; have := Nat.ble_eq.mp e2; omega
    rw [q1, q2, zbeq_ne (show r ≠ 52 by omega)]
    rfl
  have h2 : zDf r k = false := by
    unfold zDf
    rw [zbeq_ne (show r ≠ 54 by omega), zbeq_ne (show r ≠ 53 by omega)]
    rfl
  have h3 : (Nat.ble 60 r && Nat.ble r 63) = false := by
    cases e1 : Nat.ble 60 r
    · rfl
    · cases e2 : Nat.ble r 63
      · rfl
      · have := Nat.ble_eq.mp e1; have := Nat.ble_eq.mp e2; omega
  rw [h1, h2, h3, zbeq_ne (show r ≠ 0 by omega)]
  rfl
set_option maxHeartbeats 4000000 in
set_option maxRecDepth 100000 in
/-- C.refresh -/
theorem s_28 {h : zM} {G : zG} (hp : zPc h 12 44 G) (hw : zWf G) (hc : zCp h G) {Q : zQ} (hq : ∀ h2, zF zCf h h2 → zCx h2 G → Q none h2) : zR 28 [.inr (.inr 0)] h Q := by
  refine zx_met0 zk_28 (Or.inr ⟨_, _, rfl, rfl⟩) (Nat.le_of_ble_eq_true rfl) 1000 (fun hok hM => ?_)
  constructor
  · intro c1
    first
    | (exact hq _ zF.rf (hc.2 (by assumption)))
    | (refine hq _ (((zCf_N hF).st rfl).st rfl) ⟨zst_eq _ _ _ _, hf.fr (fun r k hr => by rw [zst_nr (by omega), zst_nr (by omega)]), Or.inl ?_⟩
       rw [zst_ne (by decide)]
       exact zst_eq _ _ _ _)
  · intro c1
    refine s_133 hp hw (fun h1 hF1 d1 d2 => ?_)
    refine s_151 ⟨hp.D hF1, d1, d2⟩ hw (fun h2 hF2 hf => ?_)
    have hF := (zNf_D hF1).tr hF2
    refine And.intro (by first | exact Or.inl rfl | exact Or.inr rfl | omega) ?_
    first
    | (exact hq _ zF.rf (hc.2 (by assumption)))
    | (refine hq _ (((zCf_N hF).st rfl).st rfl) ⟨zst_eq _ _ _ _, hf.fr (fun r k hr => by rw [zst_nr (by omega), zst_nr (by omega)]), Or.inl ?_⟩
       rw [zst_ne (by decide)]
       exact zst_eq _ _ _ _)
set_option maxHeartbeats 4000000 in
set_option maxRecDepth 100000 in
/-- C.write -/
theorem s_29 {h : zM} {G : zG} (hw : zWf G) (hc : zCx h G) {k : Nat} (hk : k < (zPW G).1) {Q : zQ} (hq : ∀ h2, zF zCf h h2 → zCx h2 G → zLt h2 60 (zshw (zPW G) k) → Q none h2) : zR 29 [.inr (.inr 0), .inl (k : Int)] h Q := by
  obtain ⟨d1, d2, d3⟩ := hc
  refine zx_met0 zk_29 (Or.inr ⟨_, _, rfl, rfl⟩) (Nat.le_of_ble_eq_true rfl) 1000 (fun hok hM => ?_)
  constructor
  · intro c1
    first
    | (rcases d3 with d3 | ⟨k2, q1, q2, q3⟩
       · exfalso; omega
       · obtain rfl : k2 = k := by omega
         exact hq _ zF.rf ⟨d1, d2, Or.inr ⟨k2, q1, q2, q3⟩⟩ q3)
    | (have c1b : h2 0 16 = 0 := (hF _ _ rfl).trans d1
       have hs2 : zLt (zx_st h2 0 14 (k : Int)) 60 (zshw (zPW G) k) := ⟨hs.1, hs.2⟩
       refine hq _ ((zCf_L (Or.inl rfl) hF).st rfl) ⟨?_, (d2.fr (fun r q hr => ?_)).fr (h2 := zx_st h2 0 14 (k : Int)) (fun r q hr => zst_nr (by omega)), Or.inr ⟨k, hk, zst_eq _ _ _ _, hs2⟩⟩ hs2
       · rw [zst_ne (by decide)]; exact c1b
       · refine hF _ _ ?_
         unfold zLf
         rw [zbeq_ne (show r ≠ 60 by omega), zbeq_ne (show r ≠ 60 + 1 by omega)]
         rfl)
  · intro c1
    refine s_145 (Or.inl rfl) d2.2.2.2.1 (zPW_w hw) hk (fun h2 hF hs => ?_)
    first
    | (rcases d3 with d3 | ⟨k2, q1, q2, q3⟩
       · exfalso; omega
       · obtain rfl : k2 = k := by omega
         exact hq _ zF.rf ⟨d1, d2, Or.inr ⟨k2, q1, q2, q3⟩⟩ q3)
    | (have c1b : h2 0 16 = 0 := (hF _ _ rfl).trans d1
       have hs2 : zLt (zx_st h2 0 14 (k : Int)) 60 (zshw (zPW G) k) := ⟨hs.1, hs.2⟩
       refine hq _ ((zCf_L (Or.inl rfl) hF).st rfl) ⟨?_, (d2.fr (fun r q hr => ?_)).fr (h2 := zx_st h2 0 14 (k : Int)) (fun r q hr => zst_nr (by omega)), Or.inr ⟨k, hk, zst_eq _ _ _ _, hs2⟩⟩ hs2
       · rw [zst_ne (by decide)]; exact c1b
       · refine hF _ _ ?_
         unfold zLf
         rw [zbeq_ne (show r ≠ 60 by omega), zbeq_ne (show r ≠ 60 + 1 by omega)]
         rfl)
/-- the lengths of the texts of the first n -/
def zsl (W : zW) (n : Nat) : Int := zit (fun k s => s + ((zshw W k).length : Int)) n 0
theorem zsl_b {W : zW} (hw : zWw W) : ∀ n : Nat, n ≤ W.1 → 0 ≤ zsl W n ∧ zsl W n ≤ 450 * (n : Int)
  | 0, _ => by
    show 0 ≤ (0 : Int) ∧ (0 : Int) ≤ 450 * ((0 : Nat) : Int)
    omega
  | n + 1, h => by
    have a := zsl_b hw n (by omega)
    have b := zshw_l hw (show n < W.1 by omega)
    show 0 ≤ zsl W n + ((zshw W n).length : Int) ∧ zsl W n + ((zshw W n).length : Int) ≤ 450 * ((n + 1 : Nat) : Int)
    omega
set_option maxHeartbeats 4000000 in
set_option maxRecDepth 100000 in
/-- C.lettersOfAll -/
theorem s_30 {h : zM} {G : zG} (hw : zWf G) (hc : zCx h G) {Q : zQ} (hq : ∀ h2, zF zCf h h2 → zCx h2 G → Q (some (.inl (zsl (zPW G) (zPW G).1))) h2) : zR 30 [.inr (.inr 0)] h Q := by
  have hn := (zPW_w hw).1
  refine zx_met zk_30 (Or.inr ⟨_, _, rfl, rfl⟩) (Nat.le_of_ble_eq_true rfl) (fun _ => false) 1000 (fun m j L S h2 => j = 4 ∧ S = [] ∧ ∃ k7 : Nat, L = [some (.inr (.inr 0)), some (.inl (zsl (zPW G) k7)), some (.inl (k7 : Int))] ∧ k7 ≤ (zPW G).1 ∧ m = (zPW G).1 - k7 ∧ zF zCf h h2 ∧ zCx h2 G) (fun hok hM => ?_) (fun hok hM => ?_)
  · exact ⟨_, rfl, rfl, 0, rfl, by omega, rfl, zF.rf, hc⟩
  · rintro m j L S h2 hM2 ⟨rfl, rfl, k7, rfl, hk, hm, hF, hc2⟩
    have e7 := hc2.2.1.2.2.2.1.2.1
    have hb := zsl_b (zPW_w hw) k7 hk
    constructor
    · intro c1
      have hkn : k7 < (zPW G).1 := by omega
      have hlen := zshw_l (zPW_w hw) hkn
      refine s_145 (Or.inl rfl) hc2.2.1.2.2.2.1 (zPW_w hw) hkn (fun h3 hG hs => ?_)
      have e60 := hs.1
      refine And.intro (by show -2147483648 ≤ _ + h3 60 1 ∧ _ + h3 60 1 < 2147483648; omega) ?_
      refine And.intro (by omega) ?_
      have c1b : h3 0 16 = 0 := (hG _ _ rfl).trans hc2.1
      have hs2 : zLt (zx_st h3 0 14 (k7 : Int)) 60 (zshw (zPW G) k7) := ⟨hs.1, hs.2⟩
      refine ⟨(zPW G).1 - (k7 + 1), by omega, rfl, rfl, k7 + 1, ?_, by omega, rfl, (hF.tr (zCf_L (Or.inl rfl) hG)).st rfl, ?_, (hc2.2.1.fr (fun r q hr => ?_)).fr (h2 := zx_st h3 0 14 (k7 : Int)) (fun r q hr => zst_nr (by omega)), Or.inr ⟨k7, hkn, zst_eq _ _ _ _, hs2⟩⟩
      · rw [show zx_st h3 0 14 (k7 : Int) 60 1 = ((zshw (zPW G) k7).length : Int) from e60]
        rfl
      · rw [zst_ne (by decide)]; exact c1b
      · refine hG _ _ ?_
        unfold zLf
        rw [zbeq_ne (show r ≠ 60 by omega), zbeq_ne (show r ≠ 60 + 1 by omega)]
        rfl
    · intro c1
      have kn : k7 = (zPW G).1 := by omega
      subst kn
      exact hq _ hF hc2
set_option maxHeartbeats 4000000 in
set_option maxRecDepth 100000 in
/-- C.isPoint -/
theorem s_36 {h : zM} {k : Int} {Q : zQ} (h1 : 0 ≤ k ∧ k < h 36 7 → Q (some (.inl 1)) h) (h0 : ¬ (0 ≤ k ∧ k < h 36 7) → Q (some (.inl 0)) h) : zR 36 [.inr (.inr 0), .inl k] h Q := by
  refine zx_met0 zk_36 (Or.inr ⟨_, _, rfl, rfl⟩) (Nat.le_of_ble_eq_true rfl) 1000 (fun hok hM => ?_)
  constructor
  · intro c1
    refine And.intro (by first | exact Or.inl rfl | exact Or.inr rfl | omega) ?_
    first | exact h1 (by omega) | exact h0 (by omega)
  · intro c1
    constructor
    · intro c2
      refine And.intro (by first | exact Or.inl rfl | exact Or.inr rfl | omega) ?_
      first | exact h1 (by omega) | exact h0 (by omega)
    · intro c2
      refine And.intro (by first | exact Or.inl rfl | exact Or.inr rfl | omega) ?_
      first | exact h1 (by omega) | exact h0 (by omega)
set_option maxHeartbeats 4000000 in
set_option maxRecDepth 100000 in
/-- C.isLeft -/
theorem s_37 {h : zM} (h7 : h 36 7 ≤ 40) {k i : Int} {Q : zQ} (h1 : (0 ≤ k ∧ k < h 36 7) ∧ 0 ≤ i ∧ i < h 38 k → Q (some (.inl 1)) h) (h0 : ¬ ((0 ≤ k ∧ k < h 36 7) ∧ 0 ≤ i ∧ i < h 38 k) → Q (some (.inl 0)) h) : zR 37 [.inr (.inr 0), .inl k, .inl i] h Q := by
  refine zx_met0 zk_37 (Or.inr ⟨_, _, rfl, rfl⟩) (Nat.le_of_ble_eq_true rfl) 1000 (fun hok hM => ?_)
  refine s_36 (fun a1 => ?_) (fun a1 => ?_)
  · refine And.intro (fun c => absurd c (by decide)) (fun _ => ?_)
    constructor
    · intro c1
      refine And.intro (by first | exact Or.inl rfl | exact Or.inr rfl | omega) ?_
      first | exact h1 (by omega) | exact h0 (by omega)
    · intro c1
      refine And.intro (by show 0 ≤ _ ∧ _ < (40 : Int); omega) ?_
      constructor
      · intro c2
        refine And.intro (by first | exact Or.inl rfl | exact Or.inr rfl | omega) ?_
        first | exact h1 (by omega) | exact h0 (by omega)
      · intro c2
        refine And.intro (by first | exact Or.inl rfl | exact Or.inr rfl | omega) ?_
        first | exact h1 (by omega) | exact h0 (by omega)
  · refine And.intro (fun _ => ?_) (fun c => absurd (by decide) c)
    refine And.intro (by first | exact Or.inl rfl | exact Or.inr rfl | omega) ?_
    first | exact h1 (by omega) | exact h0 (by omega)
def zaR (G : zG) (w : Int) : Int := if w = 0 then (G.1 : Int) else if w = 1 then (G.2.2.1 : Int) else if w = 2 then (zUG G : Int) else if w = 3 then (zgn G.2.2.2.2.1 : Int) else if w = 4 then G.2.2.2.2.2 else if w = 5 then (if (zPt G).2 = true then -3 else ((zPW G).1 : Int)) else if w = 6 then zsm (zPW G).2.1 (zPW G).1 else if w = 7 then zsl (zPW G) (zPW G).1 else -1
set_option maxHeartbeats 4000000 in
set_option maxRecDepth 100000 in
/-- C.rule -/
theorem s_4 {h : zM} {G : zG} (hp : zPc h 12 44 G) (hw : zWf G) (hc : zCp h G) {w : Int} {Q : zQ} (hq : ∀ h2, zF zCf h h2 → zCp h2 G → Q (some (.inl (zaR G w))) h2) : zR 4 [.inr (.inr 0), .inl w] h Q := by
  refine zx_met0 zk_4 (Or.inr ⟨_, _, rfl, rfl⟩) (Nat.le_of_ble_eq_true rfl) 1000 (fun hok hM => ?_)
  constructor
  · intro c1
    unfold zaR at hq
    first
    | (rw [if_neg (by omega), if_neg (by omega), if_neg (by omega), if_neg (by omega), if_neg (by omega), if_neg (by omega), if_neg (by omega), if_neg (by omega)] at hq; exact hq _ zF.rf hc)
    | (rw [if_pos (by assumption)] at hq
       have := hq _ hF1 hc1.p
       rw [← hp1.1] at this
       exact this)
    | (rw [if_neg (by assumption), if_pos (by assumption)] at hq
       have := hq _ hF1 hc1.p
       rw [← hp1.2.1] at this
       exact this)
    | (rw [if_neg (by assumption), if_neg (by assumption), if_pos (by assumption)] at hq
       have := hq _ hF1 hc1.p
       rw [← f1.1] at this
       exact this)
    | (rw [if_neg (by assumption), if_neg (by assumption), if_neg (by assumption), if_pos (by assumption)] at hq
       have := hq _ hF1 hc1.p
       have e3 : zgb (h1 45) = ((zgn G.2.2.2.2.1 : Nat) : Int) := (zgb_e hp1.2.2.2.2.1 6 (by omega)).1
       rw [← e3] at this
       exact this)
    | (rw [if_neg (by assumption), if_neg (by assumption), if_neg (by assumption), if_neg (by assumption), if_pos (by assumption)] at hq
       have := hq _ hF1 hc1.p
       rw [← hp1.2.2.2.2.2] at this
       exact this)
    | (rw [if_neg (by omega), if_neg (by omega), if_neg (by omega), if_neg (by omega), if_neg (by omega), if_pos (by omega)] at hq
       have := hq _ hF1 hc1.p
       have e5 := f1.2.2.1
       cases eo : (zPt G).2
       · rw [eo] at e5 this
         have e5 : h1 52 5 = 0 := e5
         first
         | (exfalso; omega)
         | (rw [if_neg (by decide), ← e7] at this
            exact this)
       · rw [eo] at e5 this
         have e5 : h1 52 5 = 1 := e5
         first
         | (exfalso; omega)
         | (rw [if_pos rfl] at this
            exact this))
    | (rw [if_neg (by omega), if_neg (by omega), if_neg (by omega), if_neg (by omega), if_neg (by omega), if_neg (by omega), if_pos (by omega)] at hq
       have := hq _ hF1 hc1.p
       rw [← f1.2.2.2.2.1] at this
       exact this)
    | (rw [if_neg (by omega), if_neg (by omega), if_neg (by omega), if_neg (by omega), if_neg (by omega), if_neg (by omega), if_neg (by omega), if_pos (by omega)] at hq
       exact hq _ (hF1.tr hF2) hc2.p)
  · intro c1
    constructor
    · intro c2
      unfold zaR at hq
      first
      | (rw [if_neg (by omega), if_neg (by omega), if_neg (by omega), if_neg (by omega), if_neg (by omega), if_neg (by omega), if_neg (by omega), if_neg (by omega)] at hq; exact hq _ zF.rf hc)
      | (rw [if_pos (by assumption)] at hq
         have := hq _ hF1 hc1.p
         rw [← hp1.1] at this
         exact this)
      | (rw [if_neg (by assumption), if_pos (by assumption)] at hq
         have := hq _ hF1 hc1.p
         rw [← hp1.2.1] at this
         exact this)
      | (rw [if_neg (by assumption), if_neg (by assumption), if_pos (by assumption)] at hq
         have := hq _ hF1 hc1.p
         rw [← f1.1] at this
         exact this)
      | (rw [if_neg (by assumption), if_neg (by assumption), if_neg (by assumption), if_pos (by assumption)] at hq
         have := hq _ hF1 hc1.p
         have e3 : zgb (h1 45) = ((zgn G.2.2.2.2.1 : Nat) : Int) := (zgb_e hp1.2.2.2.2.1 6 (by omega)).1
         rw [← e3] at this
         exact this)
      | (rw [if_neg (by assumption), if_neg (by assumption), if_neg (by assumption), if_neg (by assumption), if_pos (by assumption)] at hq
         have := hq _ hF1 hc1.p
         rw [← hp1.2.2.2.2.2] at this
         exact this)
      | (rw [if_neg (by omega), if_neg (by omega), if_neg (by omega), if_neg (by omega), if_neg (by omega), if_pos (by omega)] at hq
         have := hq _ hF1 hc1.p
         have e5 := f1.2.2.1
         cases eo : (zPt G).2
         · rw [eo] at e5 this
           have e5 : h1 52 5 = 0 := e5
           first
           | (exfalso; omega)
           | (rw [if_neg (by decide), ← e7] at this
              exact this)
         · rw [eo] at e5 this
           have e5 : h1 52 5 = 1 := e5
           first
           | (exfalso; omega)
           | (rw [if_pos rfl] at this
              exact this))
      | (rw [if_neg (by omega), if_neg (by omega), if_neg (by omega), if_neg (by omega), if_neg (by omega), if_neg (by omega), if_pos (by omega)] at hq
         have := hq _ hF1 hc1.p
         rw [← f1.2.2.2.2.1] at this
         exact this)
      | (rw [if_neg (by omega), if_neg (by omega), if_neg (by omega), if_neg (by omega), if_neg (by omega), if_neg (by omega), if_neg (by omega), if_pos (by omega)] at hq
         exact hq _ (hF1.tr hF2) hc2.p)
    · intro c2
      refine s_28 hp hw hc (fun h1 hF1 hc1 => ?_)
      have f1 := hc1.2.1
      have e7 := f1.2.2.2.1.2.1
      have n40 := (zPW_w hw).1
      have hp1 : zPc h1 12 44 G := hp.fr (fun w k hw => hF1 _ _ (zCf_n (by omega))) (fun k => hF1 _ _ (zCf_n (by omega))) (fun k => hF1 _ _ (zCf_n (by omega)))
      constructor
      · intro c3
        unfold zaR at hq
        first
        | (rw [if_neg (by omega), if_neg (by omega), if_neg (by omega), if_neg (by omega), if_neg (by omega), if_neg (by omega), if_neg (by omega), if_neg (by omega)] at hq; exact hq _ zF.rf hc)
        | (rw [if_pos (by assumption)] at hq
           have := hq _ hF1 hc1.p
           rw [← hp1.1] at this
           exact this)
        | (rw [if_neg (by assumption), if_pos (by assumption)] at hq
           have := hq _ hF1 hc1.p
           rw [← hp1.2.1] at this
           exact this)
        | (rw [if_neg (by assumption), if_neg (by assumption), if_pos (by assumption)] at hq
           have := hq _ hF1 hc1.p
           rw [← f1.1] at this
           exact this)
        | (rw [if_neg (by assumption), if_neg (by assumption), if_neg (by assumption), if_pos (by assumption)] at hq
           have := hq _ hF1 hc1.p
           have e3 : zgb (h1 45) = ((zgn G.2.2.2.2.1 : Nat) : Int) := (zgb_e hp1.2.2.2.2.1 6 (by omega)).1
           rw [← e3] at this
           exact this)
        | (rw [if_neg (by assumption), if_neg (by assumption), if_neg (by assumption), if_neg (by assumption), if_pos (by assumption)] at hq
           have := hq _ hF1 hc1.p
           rw [← hp1.2.2.2.2.2] at this
           exact this)
        | (rw [if_neg (by omega), if_neg (by omega), if_neg (by omega), if_neg (by omega), if_neg (by omega), if_pos (by omega)] at hq
           have := hq _ hF1 hc1.p
           have e5 := f1.2.2.1
           cases eo : (zPt G).2
           · rw [eo] at e5 this
             have e5 : h1 52 5 = 0 := e5
             first
             | (exfalso; omega)
             | (rw [if_neg (by decide), ← e7] at this
                exact this)
           · rw [eo] at e5 this
             have e5 : h1 52 5 = 1 := e5
             first
             | (exfalso; omega)
             | (rw [if_pos rfl] at this
                exact this))
        | (rw [if_neg (by omega), if_neg (by omega), if_neg (by omega), if_neg (by omega), if_neg (by omega), if_neg (by omega), if_pos (by omega)] at hq
           have := hq _ hF1 hc1.p
           rw [← f1.2.2.2.2.1] at this
           exact this)
        | (rw [if_neg (by omega), if_neg (by omega), if_neg (by omega), if_neg (by omega), if_neg (by omega), if_neg (by omega), if_neg (by omega), if_pos (by omega)] at hq
           exact hq _ (hF1.tr hF2) hc2.p)
      · intro c3
        constructor
        · intro c4
          unfold zaR at hq
          first
          | (rw [if_neg (by omega), if_neg (by omega), if_neg (by omega), if_neg (by omega), if_neg (by omega), if_neg (by omega), if_neg (by omega), if_neg (by omega)] at hq; exact hq _ zF.rf hc)
          | (rw [if_pos (by assumption)] at hq
             have := hq _ hF1 hc1.p
             rw [← hp1.1] at this
             exact this)
          | (rw [if_neg (by assumption), if_pos (by assumption)] at hq
             have := hq _ hF1 hc1.p
             rw [← hp1.2.1] at this
             exact this)
          | (rw [if_neg (by assumption), if_neg (by assumption), if_pos (by assumption)] at hq
             have := hq _ hF1 hc1.p
             rw [← f1.1] at this
             exact this)
          | (rw [if_neg (by assumption), if_neg (by assumption), if_neg (by assumption), if_pos (by assumption)] at hq
             have := hq _ hF1 hc1.p
             have e3 : zgb (h1 45) = ((zgn G.2.2.2.2.1 : Nat) : Int) := (zgb_e hp1.2.2.2.2.1 6 (by omega)).1
             rw [← e3] at this
             exact this)
          | (rw [if_neg (by assumption), if_neg (by assumption), if_neg (by assumption), if_neg (by assumption), if_pos (by assumption)] at hq
             have := hq _ hF1 hc1.p
             rw [← hp1.2.2.2.2.2] at this
             exact this)
          | (rw [if_neg (by omega), if_neg (by omega), if_neg (by omega), if_neg (by omega), if_neg (by omega), if_pos (by omega)] at hq
             have := hq _ hF1 hc1.p
             have e5 := f1.2.2.1
             cases eo : (zPt G).2
             · rw [eo] at e5 this
               have e5 : h1 52 5 = 0 := e5
               first
               | (exfalso; omega)
               | (rw [if_neg (by decide), ← e7] at this
                  exact this)
             · rw [eo] at e5 this
               have e5 : h1 52 5 = 1 := e5
               first
               | (exfalso; omega)
               | (rw [if_pos rfl] at this
                  exact this))
          | (rw [if_neg (by omega), if_neg (by omega), if_neg (by omega), if_neg (by omega), if_neg (by omega), if_neg (by omega), if_pos (by omega)] at hq
             have := hq _ hF1 hc1.p
             rw [← f1.2.2.2.2.1] at this
             exact this)
          | (rw [if_neg (by omega), if_neg (by omega), if_neg (by omega), if_neg (by omega), if_neg (by omega), if_neg (by omega), if_neg (by omega), if_pos (by omega)] at hq
             exact hq _ (hF1.tr hF2) hc2.p)
        · intro c4
          constructor
          · intro c5
            unfold zaR at hq
            first
            | (rw [if_neg (by omega), if_neg (by omega), if_neg (by omega), if_neg (by omega), if_neg (by omega), if_neg (by omega), if_neg (by omega), if_neg (by omega)] at hq; exact hq _ zF.rf hc)
            | (rw [if_pos (by assumption)] at hq
               have := hq _ hF1 hc1.p
               rw [← hp1.1] at this
               exact this)
            | (rw [if_neg (by assumption), if_pos (by assumption)] at hq
               have := hq _ hF1 hc1.p
               rw [← hp1.2.1] at this
               exact this)
            | (rw [if_neg (by assumption), if_neg (by assumption), if_pos (by assumption)] at hq
               have := hq _ hF1 hc1.p
               rw [← f1.1] at this
               exact this)
            | (rw [if_neg (by assumption), if_neg (by assumption), if_neg (by assumption), if_pos (by assumption)] at hq
               have := hq _ hF1 hc1.p
               have e3 : zgb (h1 45) = ((zgn G.2.2.2.2.1 : Nat) : Int) := (zgb_e hp1.2.2.2.2.1 6 (by omega)).1
               rw [← e3] at this
               exact this)
            | (rw [if_neg (by assumption), if_neg (by assumption), if_neg (by assumption), if_neg (by assumption), if_pos (by assumption)] at hq
               have := hq _ hF1 hc1.p
               rw [← hp1.2.2.2.2.2] at this
               exact this)
            | (rw [if_neg (by omega), if_neg (by omega), if_neg (by omega), if_neg (by omega), if_neg (by omega), if_pos (by omega)] at hq
               have := hq _ hF1 hc1.p
               have e5 := f1.2.2.1
               cases eo : (zPt G).2
               · rw [eo] at e5 this
                 have e5 : h1 52 5 = 0 := e5
                 first
                 | (exfalso; omega)
                 | (rw [if_neg (by decide), ← e7] at this
                    exact this)
               · rw [eo] at e5 this
                 have e5 : h1 52 5 = 1 := e5
                 first
                 | (exfalso; omega)
                 | (rw [if_pos rfl] at this
                    exact this))
            | (rw [if_neg (by omega), if_neg (by omega), if_neg (by omega), if_neg (by omega), if_neg (by omega), if_neg (by omega), if_pos (by omega)] at hq
               have := hq _ hF1 hc1.p
               rw [← f1.2.2.2.2.1] at this
               exact this)
            | (rw [if_neg (by omega), if_neg (by omega), if_neg (by omega), if_neg (by omega), if_neg (by omega), if_neg (by omega), if_neg (by omega), if_pos (by omega)] at hq
               exact hq _ (hF1.tr hF2) hc2.p)
          · intro c5
            constructor
            · intro c6
              refine s_161 ?_
              unfold zaR at hq
              first
              | (rw [if_neg (by omega), if_neg (by omega), if_neg (by omega), if_neg (by omega), if_neg (by omega), if_neg (by omega), if_neg (by omega), if_neg (by omega)] at hq; exact hq _ zF.rf hc)
              | (rw [if_pos (by assumption)] at hq
                 have := hq _ hF1 hc1.p
                 rw [← hp1.1] at this
                 exact this)
              | (rw [if_neg (by assumption), if_pos (by assumption)] at hq
                 have := hq _ hF1 hc1.p
                 rw [← hp1.2.1] at this
                 exact this)
              | (rw [if_neg (by assumption), if_neg (by assumption), if_pos (by assumption)] at hq
                 have := hq _ hF1 hc1.p
                 rw [← f1.1] at this
                 exact this)
              | (rw [if_neg (by assumption), if_neg (by assumption), if_neg (by assumption), if_pos (by assumption)] at hq
                 have := hq _ hF1 hc1.p
                 have e3 : zgb (h1 45) = ((zgn G.2.2.2.2.1 : Nat) : Int) := (zgb_e hp1.2.2.2.2.1 6 (by omega)).1
                 rw [← e3] at this
                 exact this)
              | (rw [if_neg (by assumption), if_neg (by assumption), if_neg (by assumption), if_neg (by assumption), if_pos (by assumption)] at hq
                 have := hq _ hF1 hc1.p
                 rw [← hp1.2.2.2.2.2] at this
                 exact this)
              | (rw [if_neg (by omega), if_neg (by omega), if_neg (by omega), if_neg (by omega), if_neg (by omega), if_pos (by omega)] at hq
                 have := hq _ hF1 hc1.p
                 have e5 := f1.2.2.1
                 cases eo : (zPt G).2
                 · rw [eo] at e5 this
                   have e5 : h1 52 5 = 0 := e5
                   first
                   | (exfalso; omega)
                   | (rw [if_neg (by decide), ← e7] at this
                      exact this)
                 · rw [eo] at e5 this
                   have e5 : h1 52 5 = 1 := e5
                   first
                   | (exfalso; omega)
                   | (rw [if_pos rfl] at this
                      exact this))
              | (rw [if_neg (by omega), if_neg (by omega), if_neg (by omega), if_neg (by omega), if_neg (by omega), if_neg (by omega), if_pos (by omega)] at hq
                 have := hq _ hF1 hc1.p
                 rw [← f1.2.2.2.2.1] at this
                 exact this)
              | (rw [if_neg (by omega), if_neg (by omega), if_neg (by omega), if_neg (by omega), if_neg (by omega), if_neg (by omega), if_neg (by omega), if_pos (by omega)] at hq
                 exact hq _ (hF1.tr hF2) hc2.p)
            · intro c6
              constructor
              · intro c7
                unfold zaR at hq
                first
                | (rw [if_neg (by omega), if_neg (by omega), if_neg (by omega), if_neg (by omega), if_neg (by omega), if_neg (by omega), if_neg (by omega), if_neg (by omega)] at hq; exact hq _ zF.rf hc)
                | (rw [if_pos (by assumption)] at hq
                   have := hq _ hF1 hc1.p
                   rw [← hp1.1] at this
                   exact this)
                | (rw [if_neg (by assumption), if_pos (by assumption)] at hq
                   have := hq _ hF1 hc1.p
                   rw [← hp1.2.1] at this
                   exact this)
                | (rw [if_neg (by assumption), if_neg (by assumption), if_pos (by assumption)] at hq
                   have := hq _ hF1 hc1.p
                   rw [← f1.1] at this
                   exact this)
                | (rw [if_neg (by assumption), if_neg (by assumption), if_neg (by assumption), if_pos (by assumption)] at hq
                   have := hq _ hF1 hc1.p
                   have e3 : zgb (h1 45) = ((zgn G.2.2.2.2.1 : Nat) : Int) := (zgb_e hp1.2.2.2.2.1 6 (by omega)).1
                   rw [← e3] at this
                   exact this)
                | (rw [if_neg (by assumption), if_neg (by assumption), if_neg (by assumption), if_neg (by assumption), if_pos (by assumption)] at hq
                   have := hq _ hF1 hc1.p
                   rw [← hp1.2.2.2.2.2] at this
                   exact this)
                | (rw [if_neg (by omega), if_neg (by omega), if_neg (by omega), if_neg (by omega), if_neg (by omega), if_pos (by omega)] at hq
                   have := hq _ hF1 hc1.p
                   have e5 := f1.2.2.1
                   cases eo : (zPt G).2
                   · rw [eo] at e5 this
                     have e5 : h1 52 5 = 0 := e5
                     first
                     | (exfalso; omega)
                     | (rw [if_neg (by decide), ← e7] at this
                        exact this)
                   · rw [eo] at e5 this
                     have e5 : h1 52 5 = 1 := e5
                     first
                     | (exfalso; omega)
                     | (rw [if_pos rfl] at this
                        exact this))
                | (rw [if_neg (by omega), if_neg (by omega), if_neg (by omega), if_neg (by omega), if_neg (by omega), if_neg (by omega), if_pos (by omega)] at hq
                   have := hq _ hF1 hc1.p
                   rw [← f1.2.2.2.2.1] at this
                   exact this)
                | (rw [if_neg (by omega), if_neg (by omega), if_neg (by omega), if_neg (by omega), if_neg (by omega), if_neg (by omega), if_neg (by omega), if_pos (by omega)] at hq
                   exact hq _ (hF1.tr hF2) hc2.p)
              · intro c7
                constructor
                · intro c8
                  constructor
                  · intro c9
                    unfold zaR at hq
                    first
                    | (rw [if_neg (by omega), if_neg (by omega), if_neg (by omega), if_neg (by omega), if_neg (by omega), if_neg (by omega), if_neg (by omega), if_neg (by omega)] at hq; exact hq _ zF.rf hc)
                    | (rw [if_pos (by assumption)] at hq
                       have := hq _ hF1 hc1.p
                       rw [← hp1.1] at this
                       exact this)
                    | (rw [if_neg (by assumption), if_pos (by assumption)] at hq
                       have := hq _ hF1 hc1.p
                       rw [← hp1.2.1] at this
                       exact this)
                    | (rw [if_neg (by assumption), if_neg (by assumption), if_pos (by assumption)] at hq
                       have := hq _ hF1 hc1.p
                       rw [← f1.1] at this
                       exact this)
                    | (rw [if_neg (by assumption), if_neg (by assumption), if_neg (by assumption), if_pos (by assumption)] at hq
                       have := hq _ hF1 hc1.p
                       have e3 : zgb (h1 45) = ((zgn G.2.2.2.2.1 : Nat) : Int) := (zgb_e hp1.2.2.2.2.1 6 (by omega)).1
                       rw [← e3] at this
                       exact this)
                    | (rw [if_neg (by assumption), if_neg (by assumption), if_neg (by assumption), if_neg (by assumption), if_pos (by assumption)] at hq
                       have := hq _ hF1 hc1.p
                       rw [← hp1.2.2.2.2.2] at this
                       exact this)
                    | (rw [if_neg (by omega), if_neg (by omega), if_neg (by omega), if_neg (by omega), if_neg (by omega), if_pos (by omega)] at hq
                       have := hq _ hF1 hc1.p
                       have e5 := f1.2.2.1
                       cases eo : (zPt G).2
                       · rw [eo] at e5 this
                         have e5 : h1 52 5 = 0 := e5
                         first
                         | (exfalso; omega)
                         | (rw [if_neg (by decide), ← e7] at this
                            exact this)
                       · rw [eo] at e5 this
                         have e5 : h1 52 5 = 1 := e5
                         first
                         | (exfalso; omega)
                         | (rw [if_pos rfl] at this
                            exact this))
                    | (rw [if_neg (by omega), if_neg (by omega), if_neg (by omega), if_neg (by omega), if_neg (by omega), if_neg (by omega), if_pos (by omega)] at hq
                       have := hq _ hF1 hc1.p
                       rw [← f1.2.2.2.2.1] at this
                       exact this)
                    | (rw [if_neg (by omega), if_neg (by omega), if_neg (by omega), if_neg (by omega), if_neg (by omega), if_neg (by omega), if_neg (by omega), if_pos (by omega)] at hq
                       exact hq _ (hF1.tr hF2) hc2.p)
                  · intro c9
                    unfold zaR at hq
                    first
                    | (rw [if_neg (by omega), if_neg (by omega), if_neg (by omega), if_neg (by omega), if_neg (by omega), if_neg (by omega), if_neg (by omega), if_neg (by omega)] at hq; exact hq _ zF.rf hc)
                    | (rw [if_pos (by assumption)] at hq
                       have := hq _ hF1 hc1.p
                       rw [← hp1.1] at this
                       exact this)
                    | (rw [if_neg (by assumption), if_pos (by assumption)] at hq
                       have := hq _ hF1 hc1.p
                       rw [← hp1.2.1] at this
                       exact this)
                    | (rw [if_neg (by assumption), if_neg (by assumption), if_pos (by assumption)] at hq
                       have := hq _ hF1 hc1.p
                       rw [← f1.1] at this
                       exact this)
                    | (rw [if_neg (by assumption), if_neg (by assumption), if_neg (by assumption), if_pos (by assumption)] at hq
                       have := hq _ hF1 hc1.p
                       have e3 : zgb (h1 45) = ((zgn G.2.2.2.2.1 : Nat) : Int) := (zgb_e hp1.2.2.2.2.1 6 (by omega)).1
                       rw [← e3] at this
                       exact this)
                    | (rw [if_neg (by assumption), if_neg (by assumption), if_neg (by assumption), if_neg (by assumption), if_pos (by assumption)] at hq
                       have := hq _ hF1 hc1.p
                       rw [← hp1.2.2.2.2.2] at this
                       exact this)
                    | (rw [if_neg (by omega), if_neg (by omega), if_neg (by omega), if_neg (by omega), if_neg (by omega), if_pos (by omega)] at hq
                       have := hq _ hF1 hc1.p
                       have e5 := f1.2.2.1
                       cases eo : (zPt G).2
                       · rw [eo] at e5 this
                         have e5 : h1 52 5 = 0 := e5
                         first
                         | (exfalso; omega)
                         | (rw [if_neg (by decide), ← e7] at this
                            exact this)
                       · rw [eo] at e5 this
                         have e5 : h1 52 5 = 1 := e5
                         first
                         | (exfalso; omega)
                         | (rw [if_pos rfl] at this
                            exact this))
                    | (rw [if_neg (by omega), if_neg (by omega), if_neg (by omega), if_neg (by omega), if_neg (by omega), if_neg (by omega), if_pos (by omega)] at hq
                       have := hq _ hF1 hc1.p
                       rw [← f1.2.2.2.2.1] at this
                       exact this)
                    | (rw [if_neg (by omega), if_neg (by omega), if_neg (by omega), if_neg (by omega), if_neg (by omega), if_neg (by omega), if_neg (by omega), if_pos (by omega)] at hq
                       exact hq _ (hF1.tr hF2) hc2.p)
                · intro c8
                  constructor
                  · intro c10
                    unfold zaR at hq
                    first
                    | (rw [if_neg (by omega), if_neg (by omega), if_neg (by omega), if_neg (by omega), if_neg (by omega), if_neg (by omega), if_neg (by omega), if_neg (by omega)] at hq; exact hq _ zF.rf hc)
                    | (rw [if_pos (by assumption)] at hq
                       have := hq _ hF1 hc1.p
                       rw [← hp1.1] at this
                       exact this)
                    | (rw [if_neg (by assumption), if_pos (by assumption)] at hq
                       have := hq _ hF1 hc1.p
                       rw [← hp1.2.1] at this
                       exact this)
                    | (rw [if_neg (by assumption), if_neg (by assumption), if_pos (by assumption)] at hq
                       have := hq _ hF1 hc1.p
                       rw [← f1.1] at this
                       exact this)
                    | (rw [if_neg (by assumption), if_neg (by assumption), if_neg (by assumption), if_pos (by assumption)] at hq
                       have := hq _ hF1 hc1.p
                       have e3 : zgb (h1 45) = ((zgn G.2.2.2.2.1 : Nat) : Int) := (zgb_e hp1.2.2.2.2.1 6 (by omega)).1
                       rw [← e3] at this
                       exact this)
                    | (rw [if_neg (by assumption), if_neg (by assumption), if_neg (by assumption), if_neg (by assumption), if_pos (by assumption)] at hq
                       have := hq _ hF1 hc1.p
                       rw [← hp1.2.2.2.2.2] at this
                       exact this)
                    | (rw [if_neg (by omega), if_neg (by omega), if_neg (by omega), if_neg (by omega), if_neg (by omega), if_pos (by omega)] at hq
                       have := hq _ hF1 hc1.p
                       have e5 := f1.2.2.1
                       cases eo : (zPt G).2
                       · rw [eo] at e5 this
                         have e5 : h1 52 5 = 0 := e5
                         first
                         | (exfalso; omega)
                         | (rw [if_neg (by decide), ← e7] at this
                            exact this)
                       · rw [eo] at e5 this
                         have e5 : h1 52 5 = 1 := e5
                         first
                         | (exfalso; omega)
                         | (rw [if_pos rfl] at this
                            exact this))
                    | (rw [if_neg (by omega), if_neg (by omega), if_neg (by omega), if_neg (by omega), if_neg (by omega), if_neg (by omega), if_pos (by omega)] at hq
                       have := hq _ hF1 hc1.p
                       rw [← f1.2.2.2.2.1] at this
                       exact this)
                    | (rw [if_neg (by omega), if_neg (by omega), if_neg (by omega), if_neg (by omega), if_neg (by omega), if_neg (by omega), if_neg (by omega), if_pos (by omega)] at hq
                       exact hq _ (hF1.tr hF2) hc2.p)
                  · intro c10
                    refine s_30 hw hc1 (fun h2 hF2 hc2 => ?_)
                    unfold zaR at hq
                    first
                    | (rw [if_neg (by omega), if_neg (by omega), if_neg (by omega), if_neg (by omega), if_neg (by omega), if_neg (by omega), if_neg (by omega), if_neg (by omega)] at hq; exact hq _ zF.rf hc)
                    | (rw [if_pos (by assumption)] at hq
                       have := hq _ hF1 hc1.p
                       rw [← hp1.1] at this
                       exact this)
                    | (rw [if_neg (by assumption), if_pos (by assumption)] at hq
                       have := hq _ hF1 hc1.p
                       rw [← hp1.2.1] at this
                       exact this)
                    | (rw [if_neg (by assumption), if_neg (by assumption), if_pos (by assumption)] at hq
                       have := hq _ hF1 hc1.p
                       rw [← f1.1] at this
                       exact this)
                    | (rw [if_neg (by assumption), if_neg (by assumption), if_neg (by assumption), if_pos (by assumption)] at hq
                       have := hq _ hF1 hc1.p
                       have e3 : zgb (h1 45) = ((zgn G.2.2.2.2.1 : Nat) : Int) := (zgb_e hp1.2.2.2.2.1 6 (by omega)).1
                       rw [← e3] at this
                       exact this)
                    | (rw [if_neg (by assumption), if_neg (by assumption), if_neg (by assumption), if_neg (by assumption), if_pos (by assumption)] at hq
                       have := hq _ hF1 hc1.p
                       rw [← hp1.2.2.2.2.2] at this
                       exact this)
                    | (rw [if_neg (by omega), if_neg (by omega), if_neg (by omega), if_neg (by omega), if_neg (by omega), if_pos (by omega)] at hq
                       have := hq _ hF1 hc1.p
                       have e5 := f1.2.2.1
                       cases eo : (zPt G).2
                       · rw [eo] at e5 this
                         have e5 : h1 52 5 = 0 := e5
                         first
                         | (exfalso; omega)
                         | (rw [if_neg (by decide), ← e7] at this
                            exact this)
                       · rw [eo] at e5 this
                         have e5 : h1 52 5 = 1 := e5
                         first
                         | (exfalso; omega)
                         | (rw [if_pos rfl] at this
                            exact this))
                    | (rw [if_neg (by omega), if_neg (by omega), if_neg (by omega), if_neg (by omega), if_neg (by omega), if_neg (by omega), if_pos (by omega)] at hq
                       have := hq _ hF1 hc1.p
                       rw [← f1.2.2.2.2.1] at this
                       exact this)
                    | (rw [if_neg (by omega), if_neg (by omega), if_neg (by omega), if_neg (by omega), if_neg (by omega), if_neg (by omega), if_neg (by omega), if_pos (by omega)] at hq
                       exact hq _ (hF1.tr hF2) hc2.p)
def zaB (G : zG) (b w : Int) : Int := if (0 ≤ b ∧ b < (G.1 : Int)) ∧ 0 ≤ w ∧ w ≤ 6 then (if w = 0 then (if G.2.1 b.toNat 1 = 0 then -4 else G.2.1 b.toNat 0) else if w = 6 then (zAG G b.toNat : Int) else G.2.1 b.toNat w.toNat) else -1
def zaP (G : zG) (k w : Int) : Int := if (0 ≤ k ∧ k < ((zPW G).1 : Int)) ∧ 0 ≤ w ∧ w ≤ 7 then (if w = 0 then ((zPt G).1.2.1 k.toNat : Int) else if w = 6 then (zPt G).1.2.2.2.1 k.toNat else if w = 7 then ((zshw (zPW G) k.toNat).length : Int) else (zPW G).2.1 k.toNat w.toNat) else -1
def zaH (G : zG) (k v : Int) : Int := if (0 ≤ k ∧ k < ((zPW G).1 : Int)) ∧ 0 ≤ v ∧ v < 6 then (if Nat.testBit (zUG G) v.toNat = true then -4 else (zPt G).1.2.2.1 k.toNat v) else -1
def zaL (G : zG) (k i w : Int) : Int := if ((0 ≤ k ∧ k < ((zPW G).1 : Int)) ∧ 0 ≤ i ∧ i < (zPW G).2.1 k.toNat 1) ∧ 0 ≤ w ∧ w < 5 then (zPW G).2.2 k.toNat i.toNat w.toNat else -1
def zaS (G : zG) (k i : Int) : Int := if (0 ≤ k ∧ k < ((zPW G).1 : Int)) ∧ 0 ≤ i ∧ i < ((zshw (zPW G) k.toNat).length : Int) then (zshw (zPW G) k.toNat).getD i.toNat 0 else -1
/-- where q stands in s from f on -/
def zWh (s q : List Int) (f : Nat) (x : Int) : Prop := (∃ i : Nat, x = (i : Int) ∧ f ≤ i ∧ i + q.length ≤ s.length ∧ (∀ j, f ≤ j → j < i → ¬ zmt s q j) ∧ zmt s q i) ∨ (x = -4 ∧ ∀ j, f ≤ j → j + q.length ≤ s.length → ¬ zmt s q j)
def zaW (G : zG) (k i m j x : Int) : Prop := if (0 ≤ k ∧ k < ((zPW G).1 : Int)) ∧ 0 ≤ i ∧ ((0 ≤ m ∧ m < ((zPW G).1 : Int)) ∧ 0 ≤ j ∧ j < (zPW G).2.1 m.toNat 1) then zWh (zshw (zPW G) k.toNat) (zstp ((zPW G).2.2 m.toNat j.toNat)) i.toNat x else x = -1
theorem zWh_u {s q : List Int} {f : Nat} {x y : Int} (hx : zWh s q f x) (hy : zWh s q f y) : x = y := by
  rcases hx with ⟨i, rfl, a1, a2, a3, a4⟩ | ⟨rfl, a1⟩ <;> rcases hy with ⟨j, rfl, b1, b2, b3, b4⟩ | ⟨rfl, b1⟩
  · rcases Nat.lt_trichotomy i j with q | q | q
    · exact absurd a4 (b3 i a1 q)
    · rw [q]
    · exact absurd b4 (a3 j b1 q)
  · exact absurd a4 (b1 i a1 a2)
  · exact absurd b4 (a1 j b1 b2)
  · rfl
theorem zaW_u {G : zG} {k i m j x y : Int} (hx : zaW G k i m j x) (hy : zaW G k i m j y) : x = y := by
  unfold zaW at hx hy
  split at hx
  · rename_i h
    rw [if_pos h] at hy
    exact zWh_u hx hy
  · rename_i h
    rw [if_neg h] at hy
    rw [hx, hy]
/-- no points, where they are too many -/
theorem zPW_v {G : zG} {k : Nat} (hk : k < (zPW G).1) : (zPt G).2 = false ∧ k < (zPt G).1.1 ∧ zPW G = ((zPt G).1.1, (zPt G).1.2.2.2.2.1, (zPt G).1.2.2.2.2.2) := by
  unfold zPW at hk
  unfold zPW
  cases e : (zPt G).2
  · rw [e] at hk
    exact ⟨rfl, hk, rfl⟩
  · rw [e] at hk
    exact absurd hk (Nat.not_lt_zero _)
set_option maxHeartbeats 4000000 in
set_option maxRecDepth 100000 in
/-- C.block -/
theorem s_5 {h : zM} {G : zG} (hp : zPc h 12 44 G) (hw : zWf G) (hc : zCp h G) {b w : Int} {Q : zQ} (hq : ∀ h2, zF zCf h h2 → zCp h2 G → Q (some (.inl (zaB G b w))) h2) : zR 5 [.inr (.inr 0), .inl b, .inl w] h Q := by
  have hn8 := hw.1
  have h127 := hp.1
  refine zx_met0 zk_5 (Or.inr ⟨_, _, rfl, rfl⟩) (Nat.le_of_ble_eq_true rfl) 1000 (fun hok hM => ?_)
  refine s_35 (fun a1 => ?_) (fun a1 => ?_)
  · refine And.intro (fun c => absurd c (by decide)) (fun _ => ?_)
    constructor
    · intro c1
      first
      | (unfold zaB at hq; rw [if_neg (by omega)] at hq; exact hq _ zF.rf hc)
      | (rw [if_pos (by omega), if_pos (by omega)] at hq; exact hq _ zF.rf hc)
      | (rw [if_pos (by omega), if_neg (by omega), ← g0] at hq; exact hq _ zF.rf hc)
      | (rw [if_neg (by omega), if_pos (by omega)] at hq
         have := hq _ hF1 hc1.p
         rw [← f1.2.1 k7 (by omega)] at this
         exact this)
      | (rw [if_neg (by omega), if_neg (by omega), Int.toNat_natCast] at hq; exact hq _ zF.rf hc)
    · intro c1
      constructor
      · intro c2
        first
        | (unfold zaB at hq; rw [if_neg (by omega)] at hq; exact hq _ zF.rf hc)
        | (rw [if_pos (by omega), if_pos (by omega)] at hq; exact hq _ zF.rf hc)
        | (rw [if_pos (by omega), if_neg (by omega), ← g0] at hq; exact hq _ zF.rf hc)
        | (rw [if_neg (by omega), if_pos (by omega)] at hq
           have := hq _ hF1 hc1.p
           rw [← f1.2.1 k7 (by omega)] at this
           exact this)
        | (rw [if_neg (by omega), if_neg (by omega), Int.toNat_natCast] at hq; exact hq _ zF.rf hc)
      · intro c2
        obtain ⟨k7, rfl⟩ : ∃ k7 : Nat, b = (k7 : Int) := ⟨b.toNat, by omega⟩
        have hk7 : k7 < G.1 := by omega
        unfold zaB at hq
        rw [if_pos (by omega), Int.toNat_natCast] at hq
        have g0 : h 13 (k7 : Int) = G.2.1 k7 0 := hp.2.2.1 k7 0 hk7 (by omega)
        have g1 : h 14 (k7 : Int) = G.2.1 k7 1 := hp.2.2.1 k7 1 hk7 (by omega)
        constructor
        · intro c3
          refine And.intro (by first | (show 0 ≤ _ ∧ _ < (40 : Int); omega) | (show 0 ≤ _ ∧ _ < (240 : Int); omega) | (show 0 ≤ _ ∧ _ < (8 : Int); omega)) ?_
          constructor
          · intro c4
            first
            | (unfold zaB at hq; rw [if_neg (by omega)] at hq; exact hq _ zF.rf hc)
            | (rw [if_pos (by omega), if_pos (by omega)] at hq; exact hq _ zF.rf hc)
            | (rw [if_pos (by omega), if_neg (by omega), ← g0] at hq; exact hq _ zF.rf hc)
            | (rw [if_neg (by omega), if_pos (by omega)] at hq
               have := hq _ hF1 hc1.p
               rw [← f1.2.1 k7 (by omega)] at this
               exact this)
            | (rw [if_neg (by omega), if_neg (by omega), Int.toNat_natCast] at hq; exact hq _ zF.rf hc)
          · intro c4
            refine And.intro (by first | (show 0 ≤ _ ∧ _ < (40 : Int); omega) | (show 0 ≤ _ ∧ _ < (240 : Int); omega) | (show 0 ≤ _ ∧ _ < (8 : Int); omega)) ?_
            first
            | (unfold zaB at hq; rw [if_neg (by omega)] at hq; exact hq _ zF.rf hc)
            | (rw [if_pos (by omega), if_pos (by omega)] at hq; exact hq _ zF.rf hc)
            | (rw [if_pos (by omega), if_neg (by omega), ← g0] at hq; exact hq _ zF.rf hc)
            | (rw [if_neg (by omega), if_pos (by omega)] at hq
               have := hq _ hF1 hc1.p
               rw [← f1.2.1 k7 (by omega)] at this
               exact this)
            | (rw [if_neg (by omega), if_neg (by omega), Int.toNat_natCast] at hq; exact hq _ zF.rf hc)
        · intro c3
          constructor
          · intro c5
            refine s_28 hp hw hc (fun h1 hF1 hc1 => ?_)
            have f1 := hc1.2.1
            have e7 := f1.2.2.2.1.2.1
            have n40 := (zPW_w hw).1
            have hp1 : zPc h1 12 44 G := hp.fr (fun w k hw => hF1 _ _ (zCf_n (by omega))) (fun k => hF1 _ _ (zCf_n (by omega))) (fun k => hF1 _ _ (zCf_n (by omega)))
            refine s_137 (fun a2 => ?_) (fun a2 => absurd (by omega) a2)
            first
            | (unfold zaB at hq; rw [if_neg (by omega)] at hq; exact hq _ zF.rf hc)
            | (rw [if_pos (by omega), if_pos (by omega)] at hq; exact hq _ zF.rf hc)
            | (rw [if_pos (by omega), if_neg (by omega), ← g0] at hq; exact hq _ zF.rf hc)
            | (rw [if_neg (by omega), if_pos (by omega)] at hq
               have := hq _ hF1 hc1.p
               rw [← f1.2.1 k7 (by omega)] at this
               exact this)
            | (rw [if_neg (by omega), if_neg (by omega), Int.toNat_natCast] at hq; exact hq _ zF.rf hc)
          · intro c5
            obtain ⟨w7, rfl⟩ : ∃ w7 : Nat, w = (w7 : Int) := ⟨w.toNat, by omega⟩
            refine s_197t (by unfold zWb; omega) (hp.v hw) hk7 w7 (by omega) (by omega) ?_
            first
            | (unfold zaB at hq; rw [if_neg (by omega)] at hq; exact hq _ zF.rf hc)
            | (rw [if_pos (by omega), if_pos (by omega)] at hq; exact hq _ zF.rf hc)
            | (rw [if_pos (by omega), if_neg (by omega), ← g0] at hq; exact hq _ zF.rf hc)
            | (rw [if_neg (by omega), if_pos (by omega)] at hq
               have := hq _ hF1 hc1.p
               rw [← f1.2.1 k7 (by omega)] at this
               exact this)
            | (rw [if_neg (by omega), if_neg (by omega), Int.toNat_natCast] at hq; exact hq _ zF.rf hc)
  · refine And.intro (fun _ => ?_) (fun c => absurd (by decide) c)
    first
    | (unfold zaB at hq; rw [if_neg (by omega)] at hq; exact hq _ zF.rf hc)
    | (rw [if_pos (by omega), if_pos (by omega)] at hq; exact hq _ zF.rf hc)
    | (rw [if_pos (by omega), if_neg (by omega), ← g0] at hq; exact hq _ zF.rf hc)
    | (rw [if_neg (by omega), if_pos (by omega)] at hq
       have := hq _ hF1 hc1.p
       rw [← f1.2.1 k7 (by omega)] at this
       exact this)
    | (rw [if_neg (by omega), if_neg (by omega), Int.toNat_natCast] at hq; exact hq _ zF.rf hc)
set_option maxHeartbeats 4000000 in
set_option maxRecDepth 100000 in
/-- C.point -/
theorem s_9 {h : zM} {G : zG} (hp : zPc h 12 44 G) (hw : zWf G) (hc : zCp h G) {k w : Int} {Q : zQ} (hq : ∀ h2, zF zCf h h2 → zCp h2 G → Q (some (.inl (zaP G k w))) h2) : zR 9 [.inr (.inr 0), .inl k, .inl w] h Q := by
  refine zx_met0 zk_9 (Or.inr ⟨_, _, rfl, rfl⟩) (Nat.le_of_ble_eq_true rfl) 1000 (fun hok hM => ?_)
  refine s_28 hp hw hc (fun h1 hF1 hc1 => ?_)
  have f1 := hc1.2.1
  have e7 := f1.2.2.2.1.2.1
  have n40 := (zPW_w hw).1
  have hp1 : zPc h1 12 44 G := hp.fr (fun w k hw => hF1 _ _ (zCf_n (by omega))) (fun k => hF1 _ _ (zCf_n (by omega))) (fun k => hF1 _ _ (zCf_n (by omega)))
  refine s_36 (fun a1 => ?_) (fun a1 => ?_)
  · refine And.intro (fun c => absurd c (by decide)) (fun _ => ?_)
    constructor
    · intro c1
      first
      | (unfold zaP at hq; rw [if_neg (by omega)] at hq; exact hq _ hF1 hc1.p)
      | (rw [if_pos (by omega), ← g1] at hq; exact hq _ hF1 hc1.p)
      | (rw [if_neg (by omega), if_pos (by omega), ← g2] at hq; exact hq _ hF1 hc1.p)
      | (rw [if_neg (by omega), if_neg (by omega), if_pos (by omega), ← hs.1] at hq; exact hq _ (hF1.tr hF2) hc2.p)
      | (rw [if_neg (by omega), if_neg (by omega), if_neg (by omega), Int.toNat_natCast] at hq; exact hq _ hF1 hc1.p)
    · intro c1
      constructor
      · intro c2
        first
        | (unfold zaP at hq; rw [if_neg (by omega)] at hq; exact hq _ hF1 hc1.p)
        | (rw [if_pos (by omega), ← g1] at hq; exact hq _ hF1 hc1.p)
        | (rw [if_neg (by omega), if_pos (by omega), ← g2] at hq; exact hq _ hF1 hc1.p)
        | (rw [if_neg (by omega), if_neg (by omega), if_pos (by omega), ← hs.1] at hq; exact hq _ (hF1.tr hF2) hc2.p)
        | (rw [if_neg (by omega), if_neg (by omega), if_neg (by omega), Int.toNat_natCast] at hq; exact hq _ hF1 hc1.p)
      · intro c2
        obtain ⟨k7, rfl⟩ : ∃ k7 : Nat, k = (k7 : Int) := ⟨k.toNat, by omega⟩
        have hk7 : k7 < (zPW G).1 := by omega
        obtain ⟨v1, v2, v3⟩ := zPW_v hk7
        obtain ⟨g1, g2, g3⟩ := f1.2.2.2.2.2 v1 k7 v2
        unfold zaP at hq
        rw [if_pos (by omega), Int.toNat_natCast] at hq
        constructor
        · intro c3
          refine And.intro (by first | (show 0 ≤ _ ∧ _ < (40 : Int); omega) | (show 0 ≤ _ ∧ _ < (240 : Int); omega) | (show 0 ≤ _ ∧ _ < (8 : Int); omega)) ?_
          first
          | (unfold zaP at hq; rw [if_neg (by omega)] at hq; exact hq _ hF1 hc1.p)
          | (rw [if_pos (by omega), ← g1] at hq; exact hq _ hF1 hc1.p)
          | (rw [if_neg (by omega), if_pos (by omega), ← g2] at hq; exact hq _ hF1 hc1.p)
          | (rw [if_neg (by omega), if_neg (by omega), if_pos (by omega), ← hs.1] at hq; exact hq _ (hF1.tr hF2) hc2.p)
          | (rw [if_neg (by omega), if_neg (by omega), if_neg (by omega), Int.toNat_natCast] at hq; exact hq _ hF1 hc1.p)
        · intro c3
          constructor
          · intro c4
            refine And.intro (by first | (show 0 ≤ _ ∧ _ < (40 : Int); omega) | (show 0 ≤ _ ∧ _ < (240 : Int); omega) | (show 0 ≤ _ ∧ _ < (8 : Int); omega)) ?_
            first
            | (unfold zaP at hq; rw [if_neg (by omega)] at hq; exact hq _ hF1 hc1.p)
            | (rw [if_pos (by omega), ← g1] at hq; exact hq _ hF1 hc1.p)
            | (rw [if_neg (by omega), if_pos (by omega), ← g2] at hq; exact hq _ hF1 hc1.p)
            | (rw [if_neg (by omega), if_neg (by omega), if_pos (by omega), ← hs.1] at hq; exact hq _ (hF1.tr hF2) hc2.p)
            | (rw [if_neg (by omega), if_neg (by omega), if_neg (by omega), Int.toNat_natCast] at hq; exact hq _ hF1 hc1.p)
          · intro c4
            constructor
            · intro c5
              refine s_29 hw hc1 hk7 (fun h2 hF2 hc2 hs => ?_)
              first
              | (unfold zaP at hq; rw [if_neg (by omega)] at hq; exact hq _ hF1 hc1.p)
              | (rw [if_pos (by omega), ← g1] at hq; exact hq _ hF1 hc1.p)
              | (rw [if_neg (by omega), if_pos (by omega), ← g2] at hq; exact hq _ hF1 hc1.p)
              | (rw [if_neg (by omega), if_neg (by omega), if_pos (by omega), ← hs.1] at hq; exact hq _ (hF1.tr hF2) hc2.p)
              | (rw [if_neg (by omega), if_neg (by omega), if_neg (by omega), Int.toNat_natCast] at hq; exact hq _ hF1 hc1.p)
            · intro c5
              obtain ⟨w7, rfl⟩ : ∃ w7 : Nat, w = (w7 : Int) := ⟨w.toNat, by omega⟩
              refine s_197t (by unfold zWb; omega) f1.2.2.2.1 hk7 w7 (by omega) (by omega) ?_
              first
              | (unfold zaP at hq; rw [if_neg (by omega)] at hq; exact hq _ hF1 hc1.p)
              | (rw [if_pos (by omega), ← g1] at hq; exact hq _ hF1 hc1.p)
              | (rw [if_neg (by omega), if_pos (by omega), ← g2] at hq; exact hq _ hF1 hc1.p)
              | (rw [if_neg (by omega), if_neg (by omega), if_pos (by omega), ← hs.1] at hq; exact hq _ (hF1.tr hF2) hc2.p)
              | (rw [if_neg (by omega), if_neg (by omega), if_neg (by omega), Int.toNat_natCast] at hq; exact hq _ hF1 hc1.p)
  · refine And.intro (fun _ => ?_) (fun c => absurd (by decide) c)
    first
    | (unfold zaP at hq; rw [if_neg (by omega)] at hq; exact hq _ hF1 hc1.p)
    | (rw [if_pos (by omega), ← g1] at hq; exact hq _ hF1 hc1.p)
    | (rw [if_neg (by omega), if_pos (by omega), ← g2] at hq; exact hq _ hF1 hc1.p)
    | (rw [if_neg (by omega), if_neg (by omega), if_pos (by omega), ← hs.1] at hq; exact hq _ (hF1.tr hF2) hc2.p)
    | (rw [if_neg (by omega), if_neg (by omega), if_neg (by omega), Int.toNat_natCast] at hq; exact hq _ hF1 hc1.p)
set_option maxHeartbeats 4000000 in
set_option maxRecDepth 100000 in
/-- C.held -/
theorem s_10 {h : zM} {G : zG} (hp : zPc h 12 44 G) (hw : zWf G) (hc : zCp h G) {k v : Int} {Q : zQ} (hq : ∀ h2, zF zCf h h2 → zCp h2 G → Q (some (.inl (zaH G k v))) h2) : zR 10 [.inr (.inr 0), .inl k, .inl v] h Q := by
  refine zx_met0 zk_10 (Or.inr ⟨_, _, rfl, rfl⟩) (Nat.le_of_ble_eq_true rfl) 1000 (fun hok hM => ?_)
  refine s_28 hp hw hc (fun h1 hF1 hc1 => ?_)
  have f1 := hc1.2.1
  have e7 := f1.2.2.2.1.2.1
  have n40 := (zPW_w hw).1
  have hp1 : zPc h1 12 44 G := hp.fr (fun w k hw => hF1 _ _ (zCf_n (by omega))) (fun k => hF1 _ _ (zCf_n (by omega))) (fun k => hF1 _ _ (zCf_n (by omega)))
  refine s_36 (fun a1 => ?_) (fun a1 => ?_)
  · refine And.intro (fun c => absurd c (by decide)) (fun _ => ?_)
    refine s_38 (fun a2 => ?_) (fun a2 => ?_)
    · refine And.intro (fun c => absurd c (by decide)) (fun _ => ?_)
      obtain ⟨k7, rfl⟩ : ∃ k7 : Nat, k = (k7 : Int) := ⟨k.toNat, by omega⟩
      have hk7 : k7 < (zPW G).1 := by omega
      obtain ⟨v1, v2, v3⟩ := zPW_v hk7
      obtain ⟨g1, g2, g3⟩ := f1.2.2.2.2.2 v1 k7 v2
      unfold zaH at hq
      rw [if_pos (by omega), Int.toNat_natCast] at hq
      have hz : zx_and (zx_shr (h1 53 1) v) 1 = 0 ↔ Nat.testBit (zUG G) v.toNat = false := by
        have hz := zB_bit _ (zUG_b hw) v.toNat (by omega)
        rw [Int.toNat_of_nonneg (by omega)] at hz
        rw [f1.1]
        exact hz
      refine s_43 (fun b1 => ?_) (fun b1 => ?_)
      · refine And.intro (fun c => absurd c (by decide)) (fun _ => ?_)
        first
        | (unfold zaH at hq; rw [if_neg (by omega)] at hq; exact hq _ hF1 hc1.p)
        | (rw [if_neg (by rw [hz.mp b1]; decide), ← g3 v (by omega) (by omega)] at hq; exact hq _ hF1 hc1.p)
        | (have ht : Nat.testBit (zUG G) v.toNat = true := by
             cases e : Nat.testBit (zUG G) v.toNat
             · exact absurd (hz.mpr e) b1
             · rfl
           rw [if_pos ht] at hq; exact hq _ hF1 hc1.p)
      · refine And.intro (fun _ => ?_) (fun c => absurd (by decide) c)
        refine And.intro (by omega) ?_
        refine And.intro (by omega) ?_
        refine And.intro (by first | (show 0 ≤ _ ∧ _ < (40 : Int); omega) | (show 0 ≤ _ ∧ _ < (240 : Int); omega) | (show 0 ≤ _ ∧ _ < (8 : Int); omega)) ?_
        first
        | (unfold zaH at hq; rw [if_neg (by omega)] at hq; exact hq _ hF1 hc1.p)
        | (rw [if_neg (by rw [hz.mp b1]; decide), ← g3 v (by omega) (by omega)] at hq; exact hq _ hF1 hc1.p)
        | (have ht : Nat.testBit (zUG G) v.toNat = true := by
             cases e : Nat.testBit (zUG G) v.toNat
             · exact absurd (hz.mpr e) b1
             · rfl
           rw [if_pos ht] at hq; exact hq _ hF1 hc1.p)
    · refine And.intro (fun _ => ?_) (fun c => absurd (by decide) c)
      first
      | (unfold zaH at hq; rw [if_neg (by omega)] at hq; exact hq _ hF1 hc1.p)
      | (rw [if_neg (by rw [hz.mp b1]; decide), ← g3 v (by omega) (by omega)] at hq; exact hq _ hF1 hc1.p)
      | (have ht : Nat.testBit (zUG G) v.toNat = true := by
           cases e : Nat.testBit (zUG G) v.toNat
           · exact absurd (hz.mpr e) b1
           · rfl
         rw [if_pos ht] at hq; exact hq _ hF1 hc1.p)
  · refine And.intro (fun _ => ?_) (fun c => absurd (by decide) c)
    first
    | (unfold zaH at hq; rw [if_neg (by omega)] at hq; exact hq _ hF1 hc1.p)
    | (rw [if_neg (by rw [hz.mp b1]; decide), ← g3 v (by omega) (by omega)] at hq; exact hq _ hF1 hc1.p)
    | (have ht : Nat.testBit (zUG G) v.toNat = true := by
         cases e : Nat.testBit (zUG G) v.toNat
         · exact absurd (hz.mpr e) b1
         · rfl
       rw [if_pos ht] at hq; exact hq _ hF1 hc1.p)
set_option maxHeartbeats 4000000 in
set_option maxRecDepth 100000 in
/-- C.left -/
theorem s_11 {h : zM} {G : zG} (hp : zPc h 12 44 G) (hw : zWf G) (hc : zCp h G) {k i w : Int} {Q : zQ} (hq : ∀ h2, zF zCf h h2 → zCp h2 G → Q (some (.inl (zaL G k i w))) h2) : zR 11 [.inr (.inr 0), .inl k, .inl i, .inl w] h Q := by
  refine zx_met0 zk_11 (Or.inr ⟨_, _, rfl, rfl⟩) (Nat.le_of_ble_eq_true rfl) 1000 (fun hok hM => ?_)
  refine s_28 hp hw hc (fun h1 hF1 hc1 => ?_)
  have f1 := hc1.2.1
  have e7 := f1.2.2.2.1.2.1
  have n40 := (zPW_w hw).1
  have hp1 : zPc h1 12 44 G := hp.fr (fun w k hw => hF1 _ _ (zCf_n (by omega))) (fun k => hF1 _ _ (zCf_n (by omega))) (fun k => hF1 _ _ (zCf_n (by omega)))
  have e38 : ∀ p : Nat, p < (zPW G).1 → h1 38 (p : Int) = (zPW G).2.1 p 1 := fun p hp => (f1.2.2.2.1.2.2 p hp).1 1 (by omega) (by omega)
  refine s_37 (by omega) (fun a1 => ?_) (fun a1 => ?_)
  · refine And.intro (fun c => absurd c (by decide)) (fun _ => ?_)
    obtain ⟨k7, rfl⟩ : ∃ k7 : Nat, k = (k7 : Int) := ⟨k.toNat, by omega⟩
    have hk7 : k7 < (zPW G).1 := by omega
    obtain ⟨v1, v2, v3⟩ := zPW_v hk7
    obtain ⟨g1, g2, g3⟩ := f1.2.2.2.2.2 v1 k7 v2
    have ek := e38 k7 hk7
    obtain ⟨i7, rfl⟩ : ∃ i7 : Nat, i = (i7 : Int) := ⟨i.toNat, by omega⟩
    have hsp := (f1.2.2.2.1.2.2 k7 hk7).2.2.2 i7 (by omega)
    have hsb : 0 ≤ h1 37 (k7 : Int) + (i7 : Int) ∧ h1 37 (k7 : Int) + (i7 : Int) < 960 := hsp.bd
    refine And.intro (by first | (show 0 ≤ _ ∧ _ < (40 : Int); omega) | (show 0 ≤ _ ∧ _ < (240 : Int); omega) | (show 0 ≤ _ ∧ _ < (8 : Int); omega)) ?_
    refine And.intro (by omega) ?_
    refine s_199 (by unfold zWb; omega) hsp.2.1 (fun a2 => ?_) (fun a2 => ?_)
    · first
      | (obtain ⟨w7, rfl⟩ : ∃ w7 : Nat, w = (w7 : Int) := ⟨w.toNat, by omega⟩
         unfold zaL at hq
         rw [if_pos (by rw [Int.toNat_natCast]; omega), Int.toNat_natCast, Int.toNat_natCast, Int.toNat_natCast, ← hsp.2.2 w7 (by omega)] at hq
         exact hq _ hF1 hc1.p)
      | (unfold zaL at hq
         rw [if_neg (fun q => a2 ⟨hsp.1, q.2⟩)] at hq
         exact hq _ hF1 hc1.p)
      | (unfold zaL at hq
         rw [if_neg (fun q => ?_)] at hq
         · exact hq _ hF1 hc1.p
         · obtain ⟨⟨q1, q2, q3⟩, -⟩ := q
           refine a1 ⟨by omega, q2, ?_⟩
           have := e38 k.toNat (by omega)
           rw [Int.toNat_of_nonneg q1.1] at this
           omega)
    · first
      | (obtain ⟨w7, rfl⟩ : ∃ w7 : Nat, w = (w7 : Int) := ⟨w.toNat, by omega⟩
         unfold zaL at hq
         rw [if_pos (by rw [Int.toNat_natCast]; omega), Int.toNat_natCast, Int.toNat_natCast, Int.toNat_natCast, ← hsp.2.2 w7 (by omega)] at hq
         exact hq _ hF1 hc1.p)
      | (unfold zaL at hq
         rw [if_neg (fun q => a2 ⟨hsp.1, q.2⟩)] at hq
         exact hq _ hF1 hc1.p)
      | (unfold zaL at hq
         rw [if_neg (fun q => ?_)] at hq
         · exact hq _ hF1 hc1.p
         · obtain ⟨⟨q1, q2, q3⟩, -⟩ := q
           refine a1 ⟨by omega, q2, ?_⟩
           have := e38 k.toNat (by omega)
           rw [Int.toNat_of_nonneg q1.1] at this
           omega)
  · refine And.intro (fun _ => ?_) (fun c => absurd (by decide) c)
    first
    | (obtain ⟨w7, rfl⟩ : ∃ w7 : Nat, w = (w7 : Int) := ⟨w.toNat, by omega⟩
       unfold zaL at hq
       rw [if_pos (by rw [Int.toNat_natCast]; omega), Int.toNat_natCast, Int.toNat_natCast, Int.toNat_natCast, ← hsp.2.2 w7 (by omega)] at hq
       exact hq _ hF1 hc1.p)
    | (unfold zaL at hq
       rw [if_neg (fun q => a2 ⟨hsp.1, q.2⟩)] at hq
       exact hq _ hF1 hc1.p)
    | (unfold zaL at hq
       rw [if_neg (fun q => ?_)] at hq
       · exact hq _ hF1 hc1.p
       · obtain ⟨⟨q1, q2, q3⟩, -⟩ := q
         refine a1 ⟨by omega, q2, ?_⟩
         have := e38 k.toNat (by omega)
         rw [Int.toNat_of_nonneg q1.1] at this
         omega)
set_option maxHeartbeats 4000000 in
set_option maxRecDepth 100000 in
/-- C.shown -/
theorem s_12 {h : zM} {G : zG} (hp : zPc h 12 44 G) (hw : zWf G) (hc : zCp h G) {k i : Int} {Q : zQ} (hq : ∀ h2, zF zCf h h2 → zCp h2 G → Q (some (.inl (zaS G k i))) h2) : zR 12 [.inr (.inr 0), .inl k, .inl i] h Q := by
  refine zx_met0 zk_12 (Or.inr ⟨_, _, rfl, rfl⟩) (Nat.le_of_ble_eq_true rfl) 1000 (fun hok hM => ?_)
  refine s_28 hp hw hc (fun h1 hF1 hc1 => ?_)
  have f1 := hc1.2.1
  have e7 := f1.2.2.2.1.2.1
  have n40 := (zPW_w hw).1
  have hp1 : zPc h1 12 44 G := hp.fr (fun w k hw => hF1 _ _ (zCf_n (by omega))) (fun k => hF1 _ _ (zCf_n (by omega))) (fun k => hF1 _ _ (zCf_n (by omega)))
  refine s_36 (fun a1 => ?_) (fun a1 => ?_)
  · refine And.intro (fun c => absurd c (by decide)) (fun _ => ?_)
    obtain ⟨k7, rfl⟩ : ∃ k7 : Nat, k = (k7 : Int) := ⟨k.toNat, by omega⟩
    have hk7 : k7 < (zPW G).1 := by omega
    obtain ⟨v1, v2, v3⟩ := zPW_v hk7
    obtain ⟨g1, g2, g3⟩ := f1.2.2.2.2.2 v1 k7 v2
    have hln := zshw_l (zPW_w hw) hk7
    refine s_29 hw hc1 hk7 (fun h2 hF2 hc2 hs => ?_)
    refine s_139 (Or.inl rfl) hs (by omega) (fun x7 a2 a3 => ?_) (fun a2 => ?_)
    · first
      | (unfold zaS at hq; rw [if_neg (by omega)] at hq; exact hq _ hF1 hc1.p)
      | (unfold zaS at hq
         rw [Int.toNat_natCast] at hq
         subst a2
         rw [if_pos (by omega), Int.toNat_natCast] at hq
         exact hq _ (hF1.tr hF2) hc2.p)
      | (unfold zaS at hq
         rw [Int.toNat_natCast, if_neg (fun q => a2 q.2)] at hq
         exact hq _ (hF1.tr hF2) hc2.p)
    · first
      | (unfold zaS at hq; rw [if_neg (by omega)] at hq; exact hq _ hF1 hc1.p)
      | (unfold zaS at hq
         rw [Int.toNat_natCast] at hq
         subst a2
         rw [if_pos (by omega), Int.toNat_natCast] at hq
         exact hq _ (hF1.tr hF2) hc2.p)
      | (unfold zaS at hq
         rw [Int.toNat_natCast, if_neg (fun q => a2 q.2)] at hq
         exact hq _ (hF1.tr hF2) hc2.p)
  · refine And.intro (fun _ => ?_) (fun c => absurd (by decide) c)
    first
    | (unfold zaS at hq; rw [if_neg (by omega)] at hq; exact hq _ hF1 hc1.p)
    | (unfold zaS at hq
       rw [Int.toNat_natCast] at hq
       subst a2
       rw [if_pos (by omega), Int.toNat_natCast] at hq
       exact hq _ (hF1.tr hF2) hc2.p)
    | (unfold zaS at hq
       rw [Int.toNat_natCast, if_neg (fun q => a2 q.2)] at hq
       exact hq _ (hF1.tr hF2) hc2.p)
