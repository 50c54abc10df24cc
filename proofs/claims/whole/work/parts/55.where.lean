/-! The reference's where() -/
theorem zMx.s97 {h h2 : zM} {G : zG} (hm : zMx h G) (hF : zF (fun r _ => Nat.beq r 97) h h2) : zMx h2 G := by
  refine ⟨(hF _ _ rfl).trans hm.1, hm.2.fr (fun k hk => hF _ _ rfl) (fun r k hr => hF _ _ (zbeq_ne (by omega)))⟩
set_option maxHeartbeats 4000000 in
set_option maxRecDepth 100000 in
/-- M.where -/
theorem s_105 {h : zM} {G : zG} (hp : zPm h 0 G) (hw : zWf G) (hm : zMp h G) (hc : zWc h) {k i m j : Int} {Q : zQ} (hq : ∀ x h2, zaW G k i m j x → zF zMg h h2 → zMp h2 G → Q (some (.inl x)) h2) : zR 105 [.inr (.inr 81), .inl k, .inl i, .inl m, .inl j] h Q := by
  have n40 := (zPW_w hw).1
  refine zx_met zk_105 (Or.inr ⟨_, _, rfl, rfl⟩) (Nat.le_of_ble_eq_true rfl) (fun _ => false) 1000 (fun m0 j0 L S0 h2 => (j0 = 41 ∧ S0 = [] ∧ ∃ (k7 i7 m7 j7 : Nat) (a7 : Nat) (q7 q8 q9 : Option zV), k = (k7 : Int) ∧ i = (i7 : Int) ∧ m = (m7 : Int) ∧ j = (j7 : Int) ∧ k7 < (zPW G).1 ∧ m7 < (zPW G).1 ∧ (j7 : Int) < (zPW G).2.1 m7 1 ∧ L = [some (.inr (.inr 81)), some (.inl (k7 : Int)), some (.inl (i7 : Int)), some (.inl (m7 : Int)), some (.inl (j7 : Int)), some (.inl ((zstp ((zPW G).2.2 m7 j7)).length : Int)), some (.inl (a7 : Int)), q7, q8, q9] ∧ a7 ≤ (zstp ((zPW G).2.2 m7 j7)).length ∧ m0 = 1000000 + 20 - a7 ∧ zF zMg h h2 ∧ zMx h2 G ∧ zWc h2 ∧ zPg h2 (zstp ((zPW G).2.2 m7 j7)) ∧ ∀ a : Nat, a < a7 → h2 97 (a : Int) = (zstp ((zPW G).2.2 m7 j7)).getD a 0) ∨
    (j0 = 60 ∧ S0 = [] ∧ ∃ (k7 i7 m7 j7 : Nat) (p7 : Nat) (q8 q9 : Option zV), k = (k7 : Int) ∧ i = (i7 : Int) ∧ m = (m7 : Int) ∧ j = (j7 : Int) ∧ k7 < (zPW G).1 ∧ m7 < (zPW G).1 ∧ (j7 : Int) < (zPW G).2.1 m7 1 ∧ L = [some (.inr (.inr 81)), some (.inl (k7 : Int)), some (.inl (i7 : Int)), some (.inl (m7 : Int)), some (.inl (j7 : Int)), some (.inl ((zstp ((zPW G).2.2 m7 j7)).length : Int)), some (.inl ((zshw (zPW G) k7).length : Int)), some (.inl (p7 : Int)), q8, q9] ∧ i7 ≤ p7 ∧ m0 = (500 - p7) * 100 + 50 ∧ zF zMg h h2 ∧ zMx h2 G ∧ zWc h2 ∧ zPg h2 (zshw (zPW G) k7) ∧ (∀ a : Nat, a < (zstp ((zPW G).2.2 m7 j7)).length → h2 97 (a : Int) = (zstp ((zPW G).2.2 m7 j7)).getD a 0) ∧ ∀ x, i7 ≤ x → x < p7 → ¬ zmt (zshw (zPW G) k7) (zstp ((zPW G).2.2 m7 j7)) x) ∨
    (j0 = 69 ∧ S0 = [] ∧ ∃ (k7 i7 m7 j7 : Nat) (p7 a7 : Nat) (e7 : Int), k = (k7 : Int) ∧ i = (i7 : Int) ∧ m = (m7 : Int) ∧ j = (j7 : Int) ∧ k7 < (zPW G).1 ∧ m7 < (zPW G).1 ∧ (j7 : Int) < (zPW G).2.1 m7 1 ∧ L = [some (.inr (.inr 81)), some (.inl (k7 : Int)), some (.inl (i7 : Int)), some (.inl (m7 : Int)), some (.inl (j7 : Int)), some (.inl ((zstp ((zPW G).2.2 m7 j7)).length : Int)), some (.inl ((zshw (zPW G) k7).length : Int)), some (.inl (p7 : Int)), some (.inl e7), some (.inl (a7 : Int))] ∧ i7 ≤ p7 ∧ p7 + (zstp ((zPW G).2.2 m7 j7)).length ≤ (zshw (zPW G) k7).length ∧ a7 ≤ (zstp ((zPW G).2.2 m7 j7)).length ∧ m0 = (500 - p7) * 100 + 20 - a7 ∧ zF zMg h h2 ∧ zMx h2 G ∧ zWc h2 ∧ zPg h2 (zshw (zPW G) k7) ∧ (∀ a : Nat, a < (zstp ((zPW G).2.2 m7 j7)).length → h2 97 (a : Int) = (zstp ((zPW G).2.2 m7 j7)).getD a 0) ∧ (∀ x, i7 ≤ x → x < p7 → ¬ zmt (zshw (zPW G) k7) (zstp ((zPW G).2.2 m7 j7)) x) ∧ (e7 = 1 ∧ (∀ a, a < a7 → (zshw (zPW G) k7).getD (p7 + a) 0 = (zstp ((zPW G).2.2 m7 j7)).getD a 0) ∨ e7 = 0 ∧ ¬ zmt (zshw (zPW G) k7) (zstp ((zPW G).2.2 m7 j7)) p7))) (fun hok hM => ?_) (fun hok hM => ?_)
  · refine s_82 hp hw hm (fun h1 hF1 hx a1 => ?_) (fun h1 hF1 hx a1 => ?_)
    · refine And.intro (fun c => absurd c (by decide)) (fun _ => ?_)
      constructor
      · intro c1
        first
        | (refine hq _ _ ?_ (zMg_n hF1) hx.p
           unfold zaW
           rw [if_neg (fun q => by obtain ⟨q1, q2, q3, q4, q5⟩ := q; omega)])
        | (refine hq _ _ ?_ ((zMg_n hF1).tr (zMg_n hF2)) hx2.p
           unfold zaW
           rw [if_neg (fun q => by obtain ⟨q1, q2, q3, q4, q5⟩ := q; first | omega | (rw [Int.toNat_natCast] at q5; omega))])
        | (refine hq _ _ ?_ hF hx.p
           unfold zaW
           rw [if_pos (by rw [Int.toNat_natCast]; omega), Int.toNat_natCast, Int.toNat_natCast, Int.toNat_natCast, Int.toNat_natCast]
           first
           | (have he2 := he.resolve_right (fun q => by have := q.1; omega)
              exact Or.inl ⟨p7, rfl, hi, hpl, hno, fun a ha => he2.2 a (by omega)⟩)
           | (exact Or.inr ⟨rfl, fun x h1 h2 => hno x h1 (by omega)⟩))
      · intro c1
        refine s_82 (hp.fr (h2 := h1) (fun _ => hF1 _ _ rfl)) hw hx.p (fun h2 hF2 hx2 a2 => ?_) (fun h2 hF2 hx2 a2 => ?_)
        · refine And.intro (fun c => absurd c (by decide)) (fun _ => ?_)
          obtain ⟨m7, rfl⟩ : ∃ m7 : Nat, m = (m7 : Int) := ⟨m.toNat, by omega⟩
          have hm7 : m7 < (zPW G).1 := by omega
          have e93 := (hx2.2.2.2.2.1.2 m7 hm7).1
          have b93 := ((zPW_w hw).2 m7 hm7).1
          refine And.intro (by first | (show 0 ≤ _ ∧ _ < (40 : Int); omega) | (show 0 ≤ _ ∧ _ < (240 : Int); omega) | (show 0 ≤ _ ∧ _ < (8 : Int); omega) | (show 0 ≤ _ ∧ _ < (708 : Int); omega) | (show 0 ≤ _ ∧ _ < (4800 : Int); omega) | (show 0 ≤ _ ∧ _ < (800 : Int); omega)) ?_
          refine And.intro (by omega) ?_
          refine s_50 (fun a3 => ?_) (fun a3 => ?_)
          · refine And.intro (fun c => absurd c (by decide)) (fun _ => ?_)
            obtain ⟨k7, rfl⟩ : ∃ k7 : Nat, k = (k7 : Int) := ⟨k.toNat, by omega⟩
            have hk7 : k7 < (zPW G).1 := by omega
            obtain ⟨j7, rfl⟩ : ∃ j7 : Nat, j = (j7 : Int) := ⟨j.toNat, by omega⟩
            obtain ⟨i7, rfl⟩ : ∃ i7 : Nat, i = (i7 : Int) := ⟨i.toNat, by omega⟩
            have hs0 : zPg (zx_st h2 81 27 0) [] := ⟨zst_eq _ _ _ _, fun k hk => by simp at hk⟩
            have hF0 : zF zPf h2 (zx_st h2 81 27 0) := zF.rf.st rfl
            have hcc : zWc h2 := (hc.fr (h2 := h1) (fun _ => hF1 _ _ rfl) (fun _ => hF1 _ _ rfl)).fr (fun _ => hF2 _ _ rfl) (fun _ => hF2 _ _ rfl)
            have hx0 := hx2.P hF0
            refine And.intro (by omega) ?_
            refine And.intro (by omega) ?_
            refine And.intro (by omega) ?_
            refine s_101 hs0 (hcc.fr (fun _ => hF0 _ _ rfl) (fun _ => hF0 _ _ rfl)) (by omega) (t := (zPW G).2.2 m7 j7) (fun w hw5 => (hF0 94 _ rfl).trans ((hx2.2.2.2.2.1.2 m7 hm7).2.2.2.2.2 j7 w (by omega) hw5)) (((zPW_w hw).2 m7 hm7).2.2 j7 (by omega)) (by simp) (fun h3 hG0 hs3 => ?_)
            have hG := hF0.tr hG0
            have hx3 := hx2.P hG
            have hc3 := hcc.fr (fun _ => hG _ _ rfl) (fun _ => hG _ _ rfl)
            rw [List.nil_append] at hs3
            refine ⟨1000000 + 20 - 0, Or.inl ⟨rfl, rfl, k7, i7, m7, j7, 0, none, none, none, rfl, rfl, rfl, rfl, hk7, hm7, by omega, ?_, by omega, rfl, ((zMg_n hF1).tr (zMg_n hF2)).tr (zMg_p hG), hx3, hc3, hs3, fun a ha => by omega⟩⟩
            rw [← hs3.1]
            rfl
          · refine And.intro (fun _ => ?_) (fun c => absurd (by decide) c)
            first
            | (refine hq _ _ ?_ (zMg_n hF1) hx.p
               unfold zaW
               rw [if_neg (fun q => by obtain ⟨q1, q2, q3, q4, q5⟩ := q; omega)])
            | (refine hq _ _ ?_ ((zMg_n hF1).tr (zMg_n hF2)) hx2.p
               unfold zaW
               rw [if_neg (fun q => by obtain ⟨q1, q2, q3, q4, q5⟩ := q; first | omega | (rw [Int.toNat_natCast] at q5; omega))])
            | (refine hq _ _ ?_ hF hx.p
               unfold zaW
               rw [if_pos (by rw [Int.toNat_natCast]; omega), Int.toNat_natCast, Int.toNat_natCast, Int.toNat_natCast, Int.toNat_natCast]
               first
               | (have he2 := he.resolve_right (fun q => by have := q.1; omega)
                  exact Or.inl ⟨p7, rfl, hi, hpl, hno, fun a ha => he2.2 a (by omega)⟩)
               | (exact Or.inr ⟨rfl, fun x h1 h2 => hno x h1 (by omega)⟩))
        · refine And.intro (fun _ => ?_) (fun c => absurd (by decide) c)
          first
          | (refine hq _ _ ?_ (zMg_n hF1) hx.p
             unfold zaW
             rw [if_neg (fun q => by obtain ⟨q1, q2, q3, q4, q5⟩ := q; omega)])
          | (refine hq _ _ ?_ ((zMg_n hF1).tr (zMg_n hF2)) hx2.p
             unfold zaW
             rw [if_neg (fun q => by obtain ⟨q1, q2, q3, q4, q5⟩ := q; first | omega | (rw [Int.toNat_natCast] at q5; omega))])
          | (refine hq _ _ ?_ hF hx.p
             unfold zaW
             rw [if_pos (by rw [Int.toNat_natCast]; omega), Int.toNat_natCast, Int.toNat_natCast, Int.toNat_natCast, Int.toNat_natCast]
             first
             | (have he2 := he.resolve_right (fun q => by have := q.1; omega)
                exact Or.inl ⟨p7, rfl, hi, hpl, hno, fun a ha => he2.2 a (by omega)⟩)
             | (exact Or.inr ⟨rfl, fun x h1 h2 => hno x h1 (by omega)⟩))
    · refine And.intro (fun _ => ?_) (fun c => absurd (by decide) c)
      first
      | (refine hq _ _ ?_ (zMg_n hF1) hx.p
         unfold zaW
         rw [if_neg (fun q => by obtain ⟨q1, q2, q3, q4, q5⟩ := q; omega)])
      | (refine hq _ _ ?_ ((zMg_n hF1).tr (zMg_n hF2)) hx2.p
         unfold zaW
         rw [if_neg (fun q => by obtain ⟨q1, q2, q3, q4, q5⟩ := q; first | omega | (rw [Int.toNat_natCast] at q5; omega))])
      | (refine hq _ _ ?_ hF hx.p
         unfold zaW
         rw [if_pos (by rw [Int.toNat_natCast]; omega), Int.toNat_natCast, Int.toNat_natCast, Int.toNat_natCast, Int.toNat_natCast]
         first
         | (have he2 := he.resolve_right (fun q => by have := q.1; omega)
            exact Or.inl ⟨p7, rfl, hi, hpl, hno, fun a ha => he2.2 a (by omega)⟩)
         | (exact Or.inr ⟨rfl, fun x h1 h2 => hno x h1 (by omega)⟩))
  · rintro n0 i0 L S h2 hM2 (hI | hI | hI)
    · obtain ⟨rfl, rfl, k7, i7, m7, j7, a7, q7, q8, q9, rfl, rfl, rfl, rfl, hk7, hm7, hj7, rfl, ha, hm0, hF, hx, hc2, hpg, h97⟩ := hI
      have hst := zstp_l ((zPW G).2.2 m7 j7)
      have hln := zshw_l (zPW_w hw) hk7
      constructor
      · intro c2
        refine And.intro (by first | (show 0 ≤ _ ∧ _ < (40 : Int); omega) | (show 0 ≤ _ ∧ _ < (240 : Int); omega) | (show 0 ≤ _ ∧ _ < (8 : Int); omega) | (show 0 ≤ _ ∧ _ < (708 : Int); omega) | (show 0 ≤ _ ∧ _ < (4800 : Int); omega) | (show 0 ≤ _ ∧ _ < (800 : Int); omega)) ?_
        refine And.intro (by first | (show 0 ≤ _ ∧ _ < (40 : Int); omega) | (show 0 ≤ _ ∧ _ < (240 : Int); omega) | (show 0 ≤ _ ∧ _ < (8 : Int); omega) | (show 0 ≤ _ ∧ _ < (708 : Int); omega) | (show 0 ≤ _ ∧ _ < (4800 : Int); omega) | (show 0 ≤ _ ∧ _ < (800 : Int); omega)) ?_
        refine And.intro (by omega) ?_
        refine ⟨1000000 + 20 - (a7 + 1), by omega, Or.inl ⟨rfl, rfl, k7, i7, m7, j7, a7 + 1, _, _, _, rfl, rfl, rfl, rfl, hk7, hm7, hj7, rfl, by omega, rfl, hF.st rfl, hx.s97 (zF.rf.st rfl), hc2.fr (fun _ => rfl) (fun _ => rfl), ⟨hpg.1, hpg.2⟩, fun a ha => ?_⟩⟩
        by_cases e : a = a7
        · rw [e, zst_eq]; exact hpg.2 a7 (by omega)
        · rw [zst_ne (by omega)]; exact h97 a (by omega)
      · intro c2
        have a7l : a7 = (zstp ((zPW G).2.2 m7 j7)).length := by omega
        subst a7l
        refine s_103 hc2 hx.2.2.2.2.1 (zPW_w hw) hk7 (fun h3 hG hs3 => ?_)
        first
        | (exact ⟨(500 - i7) * 100 + 50, by omega, Or.inr (Or.inl ⟨rfl, rfl, k7, i7, m7, j7, i7, _, _, rfl, rfl, rfl, rfl, hk7, hm7, hj7, rfl, by omega, rfl, hF.tr (zMg_p hG), hx.P hG, hc2.fr (fun _ => hG _ _ rfl) (fun _ => hG _ _ rfl), hs3, fun a ha => (hG _ _ rfl).trans (h97 a ha), fun x h1 h2 => by omega⟩)⟩)
        | (have hz : ¬ zmt (zshw (zPW G) k7) (zstp ((zPW G).2.2 m7 j7)) p7 := by
             rcases he with he | he
             · have := he.1
               omega
             · exact he.2
           refine ⟨(500 - (p7 + 1)) * 100 + 50, by omega, Or.inr (Or.inl ⟨rfl, rfl, k7, i7, m7, j7, p7 + 1, _, _, rfl, rfl, rfl, rfl, hk7, hm7, hj7, rfl, by omega, rfl, hF, hx, hc2, hpg, h97, fun x h1 h2 => ?_⟩)⟩
           by_cases e : x = p7
           · rw [e]; exact hz
           · exact hno x h1 (by omega))
    · obtain ⟨rfl, rfl, k7, i7, m7, j7, p7, q8, q9, rfl, rfl, rfl, rfl, hk7, hm7, hj7, rfl, hi, hm0, hF, hx, hc2, hpg, h97, hno⟩ := hI
      have hst := zstp_l ((zPW G).2.2 m7 j7)
      have hln := zshw_l (zPW_w hw) hk7
      refine And.intro (by omega) ?_
      constructor
      · intro c3
        first
        | (refine hq _ _ ?_ (zMg_n hF1) hx.p
           unfold zaW
           rw [if_neg (fun q => by obtain ⟨q1, q2, q3, q4, q5⟩ := q; omega)])
        | (refine hq _ _ ?_ ((zMg_n hF1).tr (zMg_n hF2)) hx2.p
           unfold zaW
           rw [if_neg (fun q => by obtain ⟨q1, q2, q3, q4, q5⟩ := q; first | omega | (rw [Int.toNat_natCast] at q5; omega))])
        | (refine hq _ _ ?_ hF hx.p
           unfold zaW
           rw [if_pos (by rw [Int.toNat_natCast]; omega), Int.toNat_natCast, Int.toNat_natCast, Int.toNat_natCast, Int.toNat_natCast]
           first
           | (have he2 := he.resolve_right (fun q => by have := q.1; omega)
              exact Or.inl ⟨p7, rfl, hi, hpl, hno, fun a ha => he2.2 a (by omega)⟩)
           | (exact Or.inr ⟨rfl, fun x h1 h2 => hno x h1 (by omega)⟩))
      · intro c3
        first
        | (exact ⟨(500 - p7) * 100 + 20 - 0, by omega, Or.inr (Or.inr ⟨rfl, rfl, k7, i7, m7, j7, p7, 0, _, rfl, rfl, rfl, rfl, hk7, hm7, hj7, rfl, hi, by omega, by omega, rfl, hF, hx, hc2, hpg, h97, hno, Or.inl ⟨rfl, fun a ha => by omega⟩⟩)⟩)
        | (have e1 : h2 96 ((p7 : Int) + (a7 : Int)) = _ := hpg.2 (p7 + a7) (by omega)
           have e2 := h97 a7 (by omega)
           refine ⟨(500 - p7) * 100 + 20 - (a7 + 1), by omega, Or.inr (Or.inr ⟨rfl, rfl, k7, i7, m7, j7, p7, a7 + 1, _, rfl, rfl, rfl, rfl, hk7, hm7, hj7, rfl, hi, by omega, by omega, rfl, hF, hx, hc2, hpg, h97, hno, ?_⟩)⟩
           first
           | (have he2 := he.resolve_right (fun q => by have := q.1; omega)
              left
              refine ⟨rfl, fun a ha => ?_⟩
              by_cases e : a = a7
              · rw [e]; omega
              · exact he2.2 a (by omega))
           | (have he2 := he.resolve_left (fun q => by have := q.1; omega)
              exact Or.inr ⟨rfl, he2.2⟩)
           | (right
              refine ⟨rfl, fun q => ?_⟩
              have := q a7 (by omega)
              omega))
    · obtain ⟨rfl, rfl, k7, i7, m7, j7, p7, a7, e7, rfl, rfl, rfl, rfl, hk7, hm7, hj7, rfl, hi, hpl, ha, hm0, hF, hx, hc2, hpg, h97, hno, he⟩ := hI
      have hst := zstp_l ((zPW G).2.2 m7 j7)
      have hln := zshw_l (zPW_w hw) hk7
      have he01 : e7 = 1 ∨ e7 = 0 := he.imp And.left And.left
      constructor
      · intro c4
        constructor
        · intro c5
          refine And.intro (by omega) ?_
          first
          | (exact ⟨(500 - p7) * 100 + 20 - 0, by omega, Or.inr (Or.inr ⟨rfl, rfl, k7, i7, m7, j7, p7, 0, _, rfl, rfl, rfl, rfl, hk7, hm7, hj7, rfl, hi, by omega, by omega, rfl, hF, hx, hc2, hpg, h97, hno, Or.inl ⟨rfl, fun a ha => by omega⟩⟩)⟩)
          | (have e1 : h2 96 ((p7 : Int) + (a7 : Int)) = _ := hpg.2 (p7 + a7) (by omega)
             have e2 := h97 a7 (by omega)
             refine ⟨(500 - p7) * 100 + 20 - (a7 + 1), by omega, Or.inr (Or.inr ⟨rfl, rfl, k7, i7, m7, j7, p7, a7 + 1, _, rfl, rfl, rfl, rfl, hk7, hm7, hj7, rfl, hi, by omega, by omega, rfl, hF, hx, hc2, hpg, h97, hno, ?_⟩)⟩
             first
             | (have he2 := he.resolve_right (fun q => by have := q.1; omega)
                left
                refine ⟨rfl, fun a ha => ?_⟩
                by_cases e : a = a7
                · rw [e]; omega
                · exact he2.2 a (by omega))
             | (have he2 := he.resolve_left (fun q => by have := q.1; omega)
                exact Or.inr ⟨rfl, he2.2⟩)
             | (right
                refine ⟨rfl, fun q => ?_⟩
                have := q a7 (by omega)
                omega))
        · intro c5
          refine And.intro (by omega) ?_
          refine And.intro (by first | (show 0 ≤ _ ∧ _ < (40 : Int); omega) | (show 0 ≤ _ ∧ _ < (240 : Int); omega) | (show 0 ≤ _ ∧ _ < (8 : Int); omega) | (show 0 ≤ _ ∧ _ < (708 : Int); omega) | (show 0 ≤ _ ∧ _ < (4800 : Int); omega) | (show 0 ≤ _ ∧ _ < (800 : Int); omega)) ?_
          refine And.intro (by first | (show 0 ≤ _ ∧ _ < (40 : Int); omega) | (show 0 ≤ _ ∧ _ < (240 : Int); omega) | (show 0 ≤ _ ∧ _ < (8 : Int); omega) | (show 0 ≤ _ ∧ _ < (708 : Int); omega) | (show 0 ≤ _ ∧ _ < (4800 : Int); omega) | (show 0 ≤ _ ∧ _ < (800 : Int); omega)) ?_
          constructor
          · intro c6
            refine And.intro (by omega) ?_
            first
            | (exact ⟨(500 - p7) * 100 + 20 - 0, by omega, Or.inr (Or.inr ⟨rfl, rfl, k7, i7, m7, j7, p7, 0, _, rfl, rfl, rfl, rfl, hk7, hm7, hj7, rfl, hi, by omega, by omega, rfl, hF, hx, hc2, hpg, h97, hno, Or.inl ⟨rfl, fun a ha => by omega⟩⟩)⟩)
            | (have e1 : h2 96 ((p7 : Int) + (a7 : Int)) = _ := hpg.2 (p7 + a7) (by omega)
               have e2 := h97 a7 (by omega)
               refine ⟨(500 - p7) * 100 + 20 - (a7 + 1), by omega, Or.inr (Or.inr ⟨rfl, rfl, k7, i7, m7, j7, p7, a7 + 1, _, rfl, rfl, rfl, rfl, hk7, hm7, hj7, rfl, hi, by omega, by omega, rfl, hF, hx, hc2, hpg, h97, hno, ?_⟩)⟩
               first
               | (have he2 := he.resolve_right (fun q => by have := q.1; omega)
                  left
                  refine ⟨rfl, fun a ha => ?_⟩
                  by_cases e : a = a7
                  · rw [e]; omega
                  · exact he2.2 a (by omega))
               | (have he2 := he.resolve_left (fun q => by have := q.1; omega)
                  exact Or.inr ⟨rfl, he2.2⟩)
               | (right
                  refine ⟨rfl, fun q => ?_⟩
                  have := q a7 (by omega)
                  omega))
          · intro c6
            refine And.intro (by omega) ?_
            first
            | (exact ⟨(500 - p7) * 100 + 20 - 0, by omega, Or.inr (Or.inr ⟨rfl, rfl, k7, i7, m7, j7, p7, 0, _, rfl, rfl, rfl, rfl, hk7, hm7, hj7, rfl, hi, by omega, by omega, rfl, hF, hx, hc2, hpg, h97, hno, Or.inl ⟨rfl, fun a ha => by omega⟩⟩)⟩)
            | (have e1 : h2 96 ((p7 : Int) + (a7 : Int)) = _ := hpg.2 (p7 + a7) (by omega)
               have e2 := h97 a7 (by omega)
               refine ⟨(500 - p7) * 100 + 20 - (a7 + 1), by omega, Or.inr (Or.inr ⟨rfl, rfl, k7, i7, m7, j7, p7, a7 + 1, _, rfl, rfl, rfl, rfl, hk7, hm7, hj7, rfl, hi, by omega, by omega, rfl, hF, hx, hc2, hpg, h97, hno, ?_⟩)⟩
               first
               | (have he2 := he.resolve_right (fun q => by have := q.1; omega)
                  left
                  refine ⟨rfl, fun a ha => ?_⟩
                  by_cases e : a = a7
                  · rw [e]; omega
                  · exact he2.2 a (by omega))
               | (have he2 := he.resolve_left (fun q => by have := q.1; omega)
                  exact Or.inr ⟨rfl, he2.2⟩)
               | (right
                  refine ⟨rfl, fun q => ?_⟩
                  have := q a7 (by omega)
                  omega))
      · intro c4
        constructor
        · intro c7
          refine And.intro (by omega) ?_
          first
          | (exact ⟨(500 - i7) * 100 + 50, by omega, Or.inr (Or.inl ⟨rfl, rfl, k7, i7, m7, j7, i7, _, _, rfl, rfl, rfl, rfl, hk7, hm7, hj7, rfl, by omega, rfl, hF.tr (zMg_p hG), hx.P hG, hc2.fr (fun _ => hG _ _ rfl) (fun _ => hG _ _ rfl), hs3, fun a ha => (hG _ _ rfl).trans (h97 a ha), fun x h1 h2 => by omega⟩)⟩)
          | (have hz : ¬ zmt (zshw (zPW G) k7) (zstp ((zPW G).2.2 m7 j7)) p7 := by
               rcases he with he | he
               · have := he.1
                 omega
               · exact he.2
             refine ⟨(500 - (p7 + 1)) * 100 + 50, by omega, Or.inr (Or.inl ⟨rfl, rfl, k7, i7, m7, j7, p7 + 1, _, _, rfl, rfl, rfl, rfl, hk7, hm7, hj7, rfl, by omega, rfl, hF, hx, hc2, hpg, h97, fun x h1 h2 => ?_⟩)⟩
             by_cases e : x = p7
             · rw [e]; exact hz
             · exact hno x h1 (by omega))
        · intro c7
          first
          | (refine hq _ _ ?_ (zMg_n hF1) hx.p
             unfold zaW
             rw [if_neg (fun q => by obtain ⟨q1, q2, q3, q4, q5⟩ := q; omega)])
          | (refine hq _ _ ?_ ((zMg_n hF1).tr (zMg_n hF2)) hx2.p
             unfold zaW
             rw [if_neg (fun q => by obtain ⟨q1, q2, q3, q4, q5⟩ := q; first | omega | (rw [Int.toNat_natCast] at q5; omega))])
          | (refine hq _ _ ?_ hF hx.p
             unfold zaW
             rw [if_pos (by rw [Int.toNat_natCast]; omega), Int.toNat_natCast, Int.toNat_natCast, Int.toNat_natCast, Int.toNat_natCast]
             first
             | (have he2 := he.resolve_right (fun q => by have := q.1; omega)
                exact Or.inl ⟨p7, rfl, hi, hpl, hno, fun a ha => he2.2 a (by omega)⟩)
             | (exact Or.inr ⟨rfl, fun x h1 h2 => hno x h1 (by omega)⟩))
