/-! The reference: all points are made -/
def zFm (h : zM) (G : zG) : Prop := h 81 12 = (zUG G : Int) ∧ (∀ c : Nat, c < 8 → h 86 (c : Int) = (zAG G c : Int)) ∧ h 81 16 = (if (zPt G).2 = true then 1 else 0) ∧ zVm h (zPW G) ∧ ((zPt G).2 = false → ∀ j : Nat, j < (zPt G).1.1 → h 87 (j : Int) = ((zPt G).1.2.1 j : Int) ∧ ∀ v, 0 ≤ v → v < 6 → h 88 (6 * (j : Int) + v) = (zPt G).1.2.2.1 j v)
def zMn : Nat → Int → Bool := fun r j => zMq r j || Nat.beq r 86 || (Nat.beq r 81 && (decide (j = 12) || decide (j = 14)))
theorem zMn_q {h h2 : zM} (hF : zF zMq h h2) : zF zMn h h2 := hF.mono (fun r j hf => by
  unfold zMn at hf
  simp only [Bool.or_eq_false_iff] at hf
  exact hf.1.1)
theorem zMn_k {h h2 : zM} (hF : zF zKf h h2) : zF zMn h h2 := hF.mono (fun r j hf => by
  unfold zMn at hf
  unfold zKf
  simp only [Bool.or_eq_false_iff, Bool.and_eq_false_iff] at hf ⊢
  rcases hf.2 with q | q
  · exact Or.inl q
  · exact Or.inr q.1)
theorem zMn_86 {h h2 : zM} (hF : zF (fun r _ => Nat.beq r 86) h h2) : zF zMn h h2 := hF.mono (fun r j hf => by
  unfold zMn at hf
  simp only [Bool.or_eq_false_iff] at hf
  exact hf.1.2)
theorem zHm.v {h : zM} {P : zPS} (hh : zHm h P P.1) : zVm h (P.1, P.2.2.2.2.1, P.2.2.2.2.2) := ⟨hh.1, hh.2.2⟩
set_option maxHeartbeats 4000000 in
set_option maxRecDepth 100000 in
/-- M.makes -/
theorem s_81 {h : zM} {G : zG} (hp : zPm h 0 G) (hw : zWf G) {Q : zQ} (h1 : ¬ h 81 14 = 0 → Q none h) (h0 : h 81 14 = 0 → ∀ h2, zF zMn h h2 → zFm h2 G → h2 81 14 = 1 → Q none h2) : zR 81 [.inr (.inr 81)] h Q := by
  have hn8 := hw.1
  refine zx_met zk_81 (Or.inr ⟨_, _, rfl, rfl⟩) (Nat.le_of_ble_eq_true rfl) (fun x => Nat.beq x 14) 1000 (fun m j L S h2 => (j = 14 ∧ S = [] ∧ ∃ q1 : Option zV, L = [some (.inr (.inr 81)), q1] ∧ m = 2000 ∧ h 81 14 = 0 ∧ zF zMn h h2 ∧ zEm h2 G ∧ h2 81 15 = 0 ∧ h2 81 16 = 0) ∨
    (j = 21 ∧ S = [] ∧ ∃ k7 : Nat, L = [some (.inr (.inr 81)), some (.inl (k7 : Int))] ∧ k7 ≤ 6 ∧ m = 1000 + 6 - k7 ∧ h 81 14 = 0 ∧ 0 < G.1 ∧ zF zMn h h2 ∧ zEm h2 G ∧ h2 81 15 = 0 ∧ h2 81 16 = 0 ∧ ∀ v, 0 ≤ v → v < (k7 : Int) → h2 95 v = G.2.2.2.2.1 v) ∨
    (j = 44 ∧ S = [] ∧ ∃ k7 : Nat, L = [some (.inr (.inr 81)), some (.inl (k7 : Int))] ∧ k7 ≤ 40 ∧ m = 41 - k7 ∧ h 81 14 = 0 ∧ zF zMn h h2 ∧ zEm h2 G ∧ (G.1 = 0 → k7 = 0 ∧ h2 81 15 = 0 ∧ h2 81 16 = 0) ∧ (0 < G.1 → ((zxp G k7).2 = false → k7 ≤ (zxp G k7).1.1 ∧ zHm h2 (zxp G k7).1 k7 ∧ h2 81 16 = 0) ∧ ((zxp G k7).2 = true → h2 81 16 = 1)))) (fun hok hM => ?_) (fun hok hM => ?_)
  · constructor
    · intro c1
      refine s_69 hp hw (fun h2 hF1 d1 => ?_)
      refine s_72 (hp.K hF1) hw (fun h3 hF2 d2 => ?_)
      refine And.intro (by first | exact Or.inl rfl | exact Or.inr rfl | omega) ?_
      refine ⟨2000, Or.inl ⟨rfl, rfl, _, rfl, rfl, by assumption, (((zMn_k hF1).tr (zMn_86 hF2)).st rfl).st rfl, ?_, ?_, ?_⟩⟩
      · exact ⟨((hp.K hF1).fr (fun _ => hF2 _ _ rfl)).fr (fun _ => by rw [zst_nr (by omega), zst_nr (by omega)]), (hF2 _ _ rfl).trans d1, d2⟩
      · simp [zx_st]
      · simp [zx_st]
    · intro c1
      first
      | (exact h1 (by assumption))
      | (refine h0 hz0 _ ((hF.st rfl).st rfl) ?_ (zst_eq _ _ _ _)
         by_cases hG0 : G.1 = 0
         · obtain ⟨z1, z2, z3⟩ := hv2 hG0
           have hz : zPt G = (zP0, false) := by unfold zPt; rw [if_pos hG0]
           have hz2 : zPW G = (0, zP0.2.2.2.2.1, zP0.2.2.2.2.2) := by unfold zPW; rw [hz]; rfl
           refine ⟨he.2.1, he.2.2, ?_, ?_, fun _ j hj => ?_⟩
           · rw [hz]; exact z3
           · rw [hz2]
             refine ⟨?_, fun p hp => absurd hp (Nat.not_lt_zero _)⟩
             rw [zst_ne (by omega), zst_eq]
             first | rfl | exact z2
           · rw [hz] at hj; exact absurd hj (Nat.not_lt_zero _)
         · have hn0 : 0 < G.1 := by omega
           obtain ⟨hv0, hv1⟩ := hv3 hn0
           have hz : zPt G = zxp G 40 := by unfold zPt; rw [if_neg hG0]
           cases hov : (zxp G k7).2
           · obtain ⟨g1, g2, g4⟩ := hv0 hov
             have g5 := g2.1
             have ho := zxp_o hw hn0 k7 hov g1
             have h40 := ho.1
             obtain ⟨w1, w2⟩ := zxp_w hw hn0 hov g1 (by omega)
             rw [w1] at hz
             have hz2 : zPW G = (k7, (zxp G k7).1.2.2.2.2.1, (zxp G k7).1.2.2.2.2.2) := by
               unfold zPW
               rw [hz, hov, w2]
               rfl
             have g6 : zHm h2 (zxp G k7).1 (zxp G k7).1.1 := by rw [w2]; exact g2
             have hvw := zHm.v g6
             rw [w2] at hvw
             refine ⟨he.2.1, he.2.2, ?_, ?_, fun _ => ?_⟩
             · rw [hz, hov]; exact g4
             · rw [hz2]
               refine ⟨?_, hvw.2⟩
               rw [zst_ne (by omega), zst_eq]
               first | exact hvw.1 | omega
             · rw [hz]; exact g2.2.1
           · have hz1 : (zPt G).2 = true := by rw [hz, ← zxp_40 (Or.inl hov) hk7]; exact hov
             have hz2 : zPW G = (0, fun _ _ => 0, fun _ _ _ => 0) := by unfold zPW; rw [if_pos hz1]
             have e161 := hv1 hov
             refine ⟨he.2.1, he.2.2, ?_, ?_, fun q => by rw [hz1] at q; cases q⟩
             · rw [if_pos hz1]; exact e161
             · rw [hz2]
               refine ⟨?_, fun p hp => absurd hp (Nat.not_lt_zero _)⟩
               rw [zst_ne (by omega), zst_eq]
               first | rfl | omega)
  · rintro n0 i0 L S h2 hM2 (hI | hI | hI)
    · obtain ⟨rfl, rfl, q1, rfl, hm, hz0, hF, he, e15, e16⟩ := hI
      have hn := he.1.n
      refine And.intro (by first | (show 0 ≤ _ ∧ _ < (40 : Int); omega) | (show 0 ≤ _ ∧ _ < (240 : Int); omega) | (show 0 ≤ _ ∧ _ < (6 : Int); omega) | (show 0 ≤ _ ∧ _ < (708 : Int); omega) | (show 0 ≤ _ ∧ _ < (4800 : Int); omega) | (show 0 ≤ _ ∧ _ < (8 : Int); omega)) ?_
      constructor
      · intro c2
        first
        | (exact ⟨1000 + 6 - 0, by omega, Or.inr (Or.inl ⟨rfl, rfl, 0, rfl, by omega, rfl, hz0, by omega, hF, he, e15, e16, fun v h0 h1 => by omega⟩)⟩)
        | (refine ⟨1000 + 6 - (k7 + 1), by omega, Or.inr (Or.inl ⟨rfl, rfl, k7 + 1, rfl, by omega, rfl, hz0, hn0, hF.st rfl, he.st (by omega) _ _, e15, e16, zfill hv ?_⟩)⟩
           omega)
      · intro c2
        first
        | (have hG0 : G.1 = 0 := by omega
           exact ⟨41 - 0, by omega, Or.inr (Or.inr ⟨rfl, rfl, 0, rfl, by omega, rfl, hz0, hF, he, fun _ => ⟨rfl, e15, e16⟩, fun q => by omega⟩)⟩)
        | (have hov : (zme zP0 0 (ztd G G.2.2.2.2.1 0) (-4)).2.2 = false := by
             unfold zme
             rw [if_neg (by show ¬ (zfd zP0 0 _ 0 < 0); omega), if_neg (by show ¬ (0 = 40); omega)]
           have hx2 := (hx0 hov).2
           exact ⟨41 - 0, by omega, Or.inr (Or.inr ⟨rfl, rfl, 0, rfl, by omega, rfl, hz0, hF.tr (zMn_q (zMq_Y hG)), he.Y hG, fun q => by omega, fun _ => ⟨fun _ => ⟨Nat.zero_le _, hh3, by omega⟩, fun q => by cases q⟩⟩)⟩)
        | (have h40 := ho.1
           refine ⟨41 - (k7 + 1), by omega, Or.inr (Or.inr ⟨rfl, rfl, k7 + 1, rfl, by omega, rfl, hz0, hF.tr (zMn_q hG), he.Q hG, fun q => by omega, fun _ => ⟨fun q => ?_, fun q => ?_⟩⟩)⟩
           · rw [zxp_s hov hkn] at q ⊢
             obtain ⟨z1, z2⟩ := q0 q
             exact ⟨(zpr_o hw ho hkn q).2.1, z1, by omega⟩
           · rw [zxp_s hov hkn] at q
             exact q1 q)
    · obtain ⟨rfl, rfl, k7, rfl, hk7, hm, hz0, hn0, hF, he, e15, e16, hv⟩ := hI
      constructor
      · intro c3
        refine And.intro (by first | omega | (have := ho.1; omega)) ?_
        have hg := he.1.g (v := (k7 : Int)) (by omega) (by omega) rfl
        have hgb := hw.2.2.2.2.1 (k7 : Int) (by omega) (by omega)
        refine And.intro (by first | (show 0 ≤ _ ∧ _ < (40 : Int); omega) | (show 0 ≤ _ ∧ _ < (240 : Int); omega) | (show 0 ≤ _ ∧ _ < (6 : Int); omega) | (show 0 ≤ _ ∧ _ < (708 : Int); omega) | (show 0 ≤ _ ∧ _ < (4800 : Int); omega) | (show 0 ≤ _ ∧ _ < (8 : Int); omega)) ?_
        refine And.intro (by first | omega | (have := ho.1; omega)) ?_
        refine And.intro (by first | (show 0 ≤ _ ∧ _ < (40 : Int); omega) | (show 0 ≤ _ ∧ _ < (240 : Int); omega) | (show 0 ≤ _ ∧ _ < (6 : Int); omega) | (show 0 ≤ _ ∧ _ < (708 : Int); omega) | (show 0 ≤ _ ∧ _ < (4800 : Int); omega) | (show 0 ≤ _ ∧ _ < (8 : Int); omega)) ?_
        refine And.intro (by first | omega | (have := ho.1; omega)) ?_
        first
        | (exact ⟨1000 + 6 - 0, by omega, Or.inr (Or.inl ⟨rfl, rfl, 0, rfl, by omega, rfl, hz0, by omega, hF, he, e15, e16, fun v h0 h1 => by omega⟩)⟩)
        | (refine ⟨1000 + 6 - (k7 + 1), by omega, Or.inr (Or.inl ⟨rfl, rfl, k7 + 1, rfl, by omega, rfl, hz0, hn0, hF.st rfl, he.st (by omega) _ _, e15, e16, zfill hv ?_⟩)⟩
           omega)
      · intro c3
        have k6 : k7 = 6 := by omega
        subst k6
        refine s_75 he hw (P := zP0) (k := 0) ⟨e15, fun j hj => absurd hj (Nat.not_lt_zero _), fun j hj => absurd hj (Nat.not_lt_zero _)⟩ (Nat.zero_le _) (b := 0) hn0 rfl (F := ztd G G.2.2.2.2.1 0) (fun v h0 h6 => ?_) (-4) (fun h3 y hG hh3 hx0 _ => ?_)
        · unfold ztd
          rw [hv v h0 h6]
        first
        | (have hG0 : G.1 = 0 := by omega
           exact ⟨41 - 0, by omega, Or.inr (Or.inr ⟨rfl, rfl, 0, rfl, by omega, rfl, hz0, hF, he, fun _ => ⟨rfl, e15, e16⟩, fun q => by omega⟩)⟩)
        | (have hov : (zme zP0 0 (ztd G G.2.2.2.2.1 0) (-4)).2.2 = false := by
             unfold zme
             rw [if_neg (by show ¬ (zfd zP0 0 _ 0 < 0); omega), if_neg (by show ¬ (0 = 40); omega)]
           have hx2 := (hx0 hov).2
           exact ⟨41 - 0, by omega, Or.inr (Or.inr ⟨rfl, rfl, 0, rfl, by omega, rfl, hz0, hF.tr (zMn_q (zMq_Y hG)), he.Y hG, fun q => by omega, fun _ => ⟨fun _ => ⟨Nat.zero_le _, hh3, by omega⟩, fun q => by cases q⟩⟩)⟩)
        | (have h40 := ho.1
           refine ⟨41 - (k7 + 1), by omega, Or.inr (Or.inr ⟨rfl, rfl, k7 + 1, rfl, by omega, rfl, hz0, hF.tr (zMn_q hG), he.Q hG, fun q => by omega, fun _ => ⟨fun q => ?_, fun q => ?_⟩⟩)⟩
           · rw [zxp_s hov hkn] at q ⊢
             obtain ⟨z1, z2⟩ := q0 q
             exact ⟨(zpr_o hw ho hkn q).2.1, z1, by omega⟩
           · rw [zxp_s hov hkn] at q
             exact q1 q)
    · obtain ⟨rfl, rfl, k7, rfl, hk7, hm, hz0, hF, he, hv2, hv3⟩ := hI
      constructor
      · intro c4
        constructor
        · intro c5
          have hn0 : 0 < G.1 := by
            apply Nat.pos_of_ne_zero
            intro q
            have := hv2 q
            omega
          obtain ⟨hv0, hv1⟩ := hv3 hn0
          have hov : (zxp G k7).2 = false := by
            cases e : (zxp G k7).2
            · rfl
            · have := hv1 e
              omega
          obtain ⟨g1, g2, g4⟩ := hv0 hov
          have g5 := g2.1
          have hkn : k7 < (zxp G k7).1.1 := by omega
          have ho := zxp_o hw hn0 k7 hov g1
          refine s_80 he hw g2 ho hkn (fun h3 hG q0 q1 => ?_)
          refine And.intro (by first | omega | (have := ho.1; omega)) ?_
          first
          | (have hG0 : G.1 = 0 := by omega
             exact ⟨41 - 0, by omega, Or.inr (Or.inr ⟨rfl, rfl, 0, rfl, by omega, rfl, hz0, hF, he, fun _ => ⟨rfl, e15, e16⟩, fun q => by omega⟩)⟩)
          | (have hov : (zme zP0 0 (ztd G G.2.2.2.2.1 0) (-4)).2.2 = false := by
               unfold zme
               rw [if_neg (by show ¬ (zfd zP0 0 _ 0 < 0); omega), if_neg (by show ¬ (0 = 40); omega)]
             have hx2 := (hx0 hov).2
             exact ⟨41 - 0, by omega, Or.inr (Or.inr ⟨rfl, rfl, 0, rfl, by omega, rfl, hz0, hF.tr (zMn_q (zMq_Y hG)), he.Y hG, fun q => by omega, fun _ => ⟨fun _ => ⟨Nat.zero_le _, hh3, by omega⟩, fun q => by cases q⟩⟩)⟩)
          | (have h40 := ho.1
             refine ⟨41 - (k7 + 1), by omega, Or.inr (Or.inr ⟨rfl, rfl, k7 + 1, rfl, by omega, rfl, hz0, hF.tr (zMn_q hG), he.Q hG, fun q => by omega, fun _ => ⟨fun q => ?_, fun q => ?_⟩⟩)⟩
             · rw [zxp_s hov hkn] at q ⊢
               obtain ⟨z1, z2⟩ := q0 q
               exact ⟨(zpr_o hw ho hkn q).2.1, z1, by omega⟩
             · rw [zxp_s hov hkn] at q
               exact q1 q)
        · intro c5
          constructor
          · intro c6
            refine And.intro (by first | exact Or.inl rfl | exact Or.inr rfl | omega) ?_
            first
            | (exact h1 (by assumption))
            | (refine h0 hz0 _ ((hF.st rfl).st rfl) ?_ (zst_eq _ _ _ _)
               by_cases hG0 : G.1 = 0
               · obtain ⟨z1, z2, z3⟩ := hv2 hG0
                 have hz : zPt G = (zP0, false) := by unfold zPt; rw [if_pos hG0]
                 have hz2 : zPW G = (0, zP0.2.2.2.2.1, zP0.2.2.2.2.2) := by unfold zPW; rw [hz]; rfl
                 refine ⟨he.2.1, he.2.2, ?_, ?_, fun _ j hj => ?_⟩
                 · rw [hz]; exact z3
                 · rw [hz2]
                   refine ⟨?_, fun p hp => absurd hp (Nat.not_lt_zero _)⟩
                   rw [zst_ne (by omega), zst_eq]
                   first | rfl | exact z2
                 · rw [hz] at hj; exact absurd hj (Nat.not_lt_zero _)
               · have hn0 : 0 < G.1 := by omega
                 obtain ⟨hv0, hv1⟩ := hv3 hn0
                 have hz : zPt G = zxp G 40 := by unfold zPt; rw [if_neg hG0]
                 cases hov : (zxp G k7).2
                 · obtain ⟨g1, g2, g4⟩ := hv0 hov
                   have g5 := g2.1
                   have ho := zxp_o hw hn0 k7 hov g1
                   have h40 := ho.1
                   obtain ⟨w1, w2⟩ := zxp_w hw hn0 hov g1 (by omega)
                   rw [w1] at hz
                   have hz2 : zPW G = (k7, (zxp G k7).1.2.2.2.2.1, (zxp G k7).1.2.2.2.2.2) := by
                     unfold zPW
                     rw [hz, hov, w2]
                     rfl
                   have g6 : zHm h2 (zxp G k7).1 (zxp G k7).1.1 := by rw [w2]; exact g2
                   have hvw := zHm.v g6
                   rw [w2] at hvw
                   refine ⟨he.2.1, he.2.2, ?_, ?_, fun _ => ?_⟩
                   · rw [hz, hov]; exact g4
                   · rw [hz2]
                     refine ⟨?_, hvw.2⟩
                     rw [zst_ne (by omega), zst_eq]
                     first | exact hvw.1 | omega
                   · rw [hz]; exact g2.2.1
                 · have hz1 : (zPt G).2 = true := by rw [hz, ← zxp_40 (Or.inl hov) hk7]; exact hov
                   have hz2 : zPW G = (0, fun _ _ => 0, fun _ _ _ => 0) := by unfold zPW; rw [if_pos hz1]
                   have e161 := hv1 hov
                   refine ⟨he.2.1, he.2.2, ?_, ?_, fun q => by rw [hz1] at q; cases q⟩
                   · rw [if_pos hz1]; exact e161
                   · rw [hz2]
                     refine ⟨?_, fun p hp => absurd hp (Nat.not_lt_zero _)⟩
                     rw [zst_ne (by omega), zst_eq]
                     first | rfl | omega)
          · intro c6
            refine And.intro (by first | exact Or.inl rfl | exact Or.inr rfl | omega) ?_
            first
            | (exact h1 (by assumption))
            | (refine h0 hz0 _ ((hF.st rfl).st rfl) ?_ (zst_eq _ _ _ _)
               by_cases hG0 : G.1 = 0
               · obtain ⟨z1, z2, z3⟩ := hv2 hG0
                 have hz : zPt G = (zP0, false) := by unfold zPt; rw [if_pos hG0]
                 have hz2 : zPW G = (0, zP0.2.2.2.2.1, zP0.2.2.2.2.2) := by unfold zPW; rw [hz]; rfl
                 refine ⟨he.2.1, he.2.2, ?_, ?_, fun _ j hj => ?_⟩
                 · rw [hz]; exact z3
                 · rw [hz2]
                   refine ⟨?_, fun p hp => absurd hp (Nat.not_lt_zero _)⟩
                   rw [zst_ne (by omega), zst_eq]
                   first | rfl | exact z2
                 · rw [hz] at hj; exact absurd hj (Nat.not_lt_zero _)
               · have hn0 : 0 < G.1 := by omega
                 obtain ⟨hv0, hv1⟩ := hv3 hn0
                 have hz : zPt G = zxp G 40 := by unfold zPt; rw [if_neg hG0]
                 cases hov : (zxp G k7).2
                 · obtain ⟨g1, g2, g4⟩ := hv0 hov
                   have g5 := g2.1
                   have ho := zxp_o hw hn0 k7 hov g1
                   have h40 := ho.1
                   obtain ⟨w1, w2⟩ := zxp_w hw hn0 hov g1 (by omega)
                   rw [w1] at hz
                   have hz2 : zPW G = (k7, (zxp G k7).1.2.2.2.2.1, (zxp G k7).1.2.2.2.2.2) := by
                     unfold zPW
                     rw [hz, hov, w2]
                     rfl
                   have g6 : zHm h2 (zxp G k7).1 (zxp G k7).1.1 := by rw [w2]; exact g2
                   have hvw := zHm.v g6
                   rw [w2] at hvw
                   refine ⟨he.2.1, he.2.2, ?_, ?_, fun _ => ?_⟩
                   · rw [hz, hov]; exact g4
                   · rw [hz2]
                     refine ⟨?_, hvw.2⟩
                     rw [zst_ne (by omega), zst_eq]
                     first | exact hvw.1 | omega
                   · rw [hz]; exact g2.2.1
                 · have hz1 : (zPt G).2 = true := by rw [hz, ← zxp_40 (Or.inl hov) hk7]; exact hov
                   have hz2 : zPW G = (0, fun _ _ => 0, fun _ _ _ => 0) := by unfold zPW; rw [if_pos hz1]
                   have e161 := hv1 hov
                   refine ⟨he.2.1, he.2.2, ?_, ?_, fun q => by rw [hz1] at q; cases q⟩
                   · rw [if_pos hz1]; exact e161
                   · rw [hz2]
                     refine ⟨?_, fun p hp => absurd hp (Nat.not_lt_zero _)⟩
                     rw [zst_ne (by omega), zst_eq]
                     first | rfl | omega)
      · intro c4
        constructor
        · intro c7
          refine And.intro (by first | exact Or.inl rfl | exact Or.inr rfl | omega) ?_
          first
          | (exact h1 (by assumption))
          | (refine h0 hz0 _ ((hF.st rfl).st rfl) ?_ (zst_eq _ _ _ _)
             by_cases hG0 : G.1 = 0
             · obtain ⟨z1, z2, z3⟩ := hv2 hG0
               have hz : zPt G = (zP0, false) := by unfold zPt; rw [if_pos hG0]
               have hz2 : zPW G = (0, zP0.2.2.2.2.1, zP0.2.2.2.2.2) := by unfold zPW; rw [hz]; rfl
               refine ⟨he.2.1, he.2.2, ?_, ?_, fun _ j hj => ?_⟩
               · rw [hz]; exact z3
               · rw [hz2]
                 refine ⟨?_, fun p hp => absurd hp (Nat.not_lt_zero _)⟩
                 rw [zst_ne (by omega), zst_eq]
                 first | rfl | exact z2
               · rw [hz] at hj; exact absurd hj (Nat.not_lt_zero _)
             · have hn0 : 0 < G.1 := by omega
               obtain ⟨hv0, hv1⟩ := hv3 hn0
               have hz : zPt G = zxp G 40 := by unfold zPt; rw [if_neg hG0]
               cases hov : (zxp G k7).2
               · obtain ⟨g1, g2, g4⟩ := hv0 hov
                 have g5 := g2.1
                 have ho := zxp_o hw hn0 k7 hov g1
                 have h40 := ho.1
                 obtain ⟨w1, w2⟩ := zxp_w hw hn0 hov g1 (by omega)
                 rw [w1] at hz
                 have hz2 : zPW G = (k7, (zxp G k7).1.2.2.2.2.1, (zxp G k7).1.2.2.2.2.2) := by
                   unfold zPW
                   rw [hz, hov, w2]
                   rfl
                 have g6 : zHm h2 (zxp G k7).1 (zxp G k7).1.1 := by rw [w2]; exact g2
                 have hvw := zHm.v g6
                 rw [w2] at hvw
                 refine ⟨he.2.1, he.2.2, ?_, ?_, fun _ => ?_⟩
                 · rw [hz, hov]; exact g4
                 · rw [hz2]
                   refine ⟨?_, hvw.2⟩
                   rw [zst_ne (by omega), zst_eq]
                   first | exact hvw.1 | omega
                 · rw [hz]; exact g2.2.1
               · have hz1 : (zPt G).2 = true := by rw [hz, ← zxp_40 (Or.inl hov) hk7]; exact hov
                 have hz2 : zPW G = (0, fun _ _ => 0, fun _ _ _ => 0) := by unfold zPW; rw [if_pos hz1]
                 have e161 := hv1 hov
                 refine ⟨he.2.1, he.2.2, ?_, ?_, fun q => by rw [hz1] at q; cases q⟩
                 · rw [if_pos hz1]; exact e161
                 · rw [hz2]
                   refine ⟨?_, fun p hp => absurd hp (Nat.not_lt_zero _)⟩
                   rw [zst_ne (by omega), zst_eq]
                   first | rfl | omega)
        · intro c7
          refine And.intro (by first | exact Or.inl rfl | exact Or.inr rfl | omega) ?_
          first
          | (exact h1 (by assumption))
          | (refine h0 hz0 _ ((hF.st rfl).st rfl) ?_ (zst_eq _ _ _ _)
             by_cases hG0 : G.1 = 0
             · obtain ⟨z1, z2, z3⟩ := hv2 hG0
               have hz : zPt G = (zP0, false) := by unfold zPt; rw [if_pos hG0]
               have hz2 : zPW G = (0, zP0.2.2.2.2.1, zP0.2.2.2.2.2) := by unfold zPW; rw [hz]; rfl
               refine ⟨he.2.1, he.2.2, ?_, ?_, fun _ j hj => ?_⟩
               · rw [hz]; exact z3
               · rw [hz2]
                 refine ⟨?_, fun p hp => absurd hp (Nat.not_lt_zero _)⟩
                 rw [zst_ne (by omega), zst_eq]
                 first | rfl | exact z2
               · rw [hz] at hj; exact absurd hj (Nat.not_lt_zero _)
             · have hn0 : 0 < G.1 := by omega
               obtain ⟨hv0, hv1⟩ := hv3 hn0
               have hz : zPt G = zxp G 40 := by unfold zPt; rw [if_neg hG0]
               cases hov : (zxp G k7).2
               · obtain ⟨g1, g2, g4⟩ := hv0 hov
                 have g5 := g2.1
                 have ho := zxp_o hw hn0 k7 hov g1
                 have h40 := ho.1
                 obtain ⟨w1, w2⟩ := zxp_w hw hn0 hov g1 (by omega)
                 rw [w1] at hz
                 have hz2 : zPW G = (k7, (zxp G k7).1.2.2.2.2.1, (zxp G k7).1.2.2.2.2.2) := by
                   unfold zPW
                   rw [hz, hov, w2]
                   rfl
                 have g6 : zHm h2 (zxp G k7).1 (zxp G k7).1.1 := by rw [w2]; exact g2
                 have hvw := zHm.v g6
                 rw [w2] at hvw
                 refine ⟨he.2.1, he.2.2, ?_, ?_, fun _ => ?_⟩
                 · rw [hz, hov]; exact g4
                 · rw [hz2]
                   refine ⟨?_, hvw.2⟩
                   rw [zst_ne (by omega), zst_eq]
                   first | exact hvw.1 | omega
                 · rw [hz]; exact g2.2.1
               · have hz1 : (zPt G).2 = true := by rw [hz, ← zxp_40 (Or.inl hov) hk7]; exact hov
                 have hz2 : zPW G = (0, fun _ _ => 0, fun _ _ _ => 0) := by unfold zPW; rw [if_pos hz1]
                 have e161 := hv1 hov
                 refine ⟨he.2.1, he.2.2, ?_, ?_, fun q => by rw [hz1] at q; cases q⟩
                 · rw [if_pos hz1]; exact e161
                 · rw [hz2]
                   refine ⟨?_, fun p hp => absurd hp (Nat.not_lt_zero _)⟩
                   rw [zst_ne (by omega), zst_eq]
                   first | rfl | omega)
