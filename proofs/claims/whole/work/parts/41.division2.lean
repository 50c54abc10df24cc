def zDf : Nat → Int → Bool := fun r k => Nat.beq r 54 || (Nat.beq r 53 && decide (k = 1))
theorem zDf_n {r : Nat} {k : Int} (h : r < 53) : zDf r k = false := by
  unfold zDf
  rw [zbeq_ne (show r ≠ 54 by omega), zbeq_ne (show r ≠ 53 by omega)]
  rfl
theorem zPc.D {h h2 : zM} {G : zG} (hp : zPc h 12 44 G) (hF : zF zDf h h2) : zPc h2 12 44 G := hp.fr (fun w k hw => hF _ _ (zDf_n (by omega))) (fun _ => hF _ _ rfl) (fun _ => hF _ _ rfl)
/-- what the division says of a program -/
def zUG (G : zG) : Nat := zuk G.2.2.2.1 G.2.2.1 G.2.2.2.2.1
def zAG (G : zG) : Nat → Nat := zah (zGW G)
theorem zUG_b {G : zG} (hw : zWf G) : zUG G < 64 := zuk_b hw.2.2.2.1 _
theorem zAG_b {G : zG} (hw : zWf G) (c : Nat) : zAG G c < 64 := zah_b hw.w hw.1 c
set_option maxHeartbeats 4000000 in
set_option maxRecDepth 100000 in
/-- Division.find -/
theorem s_133 {h : zM} {G : zG} (hp : zPc h 12 44 G) (hw : zWf G) {Q : zQ} (hq : ∀ h2, zF zDf h h2 → h2 53 1 = (zUG G : Int) → (∀ c : Nat, c < 8 → h2 54 (c : Int) = (zAG G c : Int)) → Q none h2) : zR 133 [.inr (.inr 53), .inr (.inr 44)] h Q := by
  have hu0 := zu0_gn G.2.2.2.2.1
  have hgb : zgb (h 45) = (zgn G.2.2.2.2.1 : Int) := (zgb_e hp.2.2.2.2.1 6 (by omega)).1
  have hnt := zB_not _ hu0.2.2
  refine zx_met zk_133 (Or.inr ⟨_, _, rfl, rfl⟩) (Nat.le_of_ble_eq_true rfl) (fun _ => false) 1000 (fun m j L S h2 => (j = 12 ∧ S = [] ∧ ∃ (p7 : Nat) (g : Int), L = [some (.inr (.inr 53)), some (.inr (.inr 44)), some (.inl g), some (.inl (p7 : Int))] ∧ p7 ≤ 7 ∧ m = 2000 + 7 - p7 ∧ zF zDf h h2 ∧ h2 53 1 = ((zit (fun _ u => zukp G.2.2.2.1 G.2.2.1 u) p7 (zu0 G.2.2.2.2.1) : Nat) : Int) ∧ (g = 1 ∧ p7 ≤ zpc (zit (fun _ u => zukp G.2.2.2.1 G.2.2.1 u) p7 (zu0 G.2.2.2.2.1)) ∨ g = 0 ∧ zukp G.2.2.2.1 G.2.2.1 (zit (fun _ u => zukp G.2.2.2.1 G.2.2.1 u) p7 (zu0 G.2.2.2.2.1)) = zit (fun _ u => zukp G.2.2.2.1 G.2.2.1 u) p7 (zu0 G.2.2.2.2.1))) ∨
    (j = 26 ∧ S = [] ∧ ∃ (k7 : Nat) (q7 : Option zV), L = [some (.inr (.inr 53)), some (.inr (.inr 44)), q7, some (.inl (k7 : Int))] ∧ k7 ≤ 8 ∧ m = 1000 + 8 - k7 ∧ zF zDf h h2 ∧ h2 53 1 = (zUG G : Int) ∧ ∀ c : Nat, c < k7 → h2 54 (c : Int) = 0) ∨
    (j = 40 ∧ S = [] ∧ ∃ (p7 : Nat) (g : Int), L = [some (.inr (.inr 53)), some (.inr (.inr 44)), some (.inl g), some (.inl (p7 : Int))] ∧ p7 ≤ 49 ∧ m = 49 - p7 ∧ zF zDf h h2 ∧ h2 53 1 = (zUG G : Int) ∧ (∀ c : Nat, c < 8 → h2 54 (c : Int) = ((zit (fun _ x => zap (zGW G) (zGW G).1 x) p7 zx0 c : Nat) : Int)) ∧ (g = 1 ∧ p7 ≤ zmu (zit (fun _ x => zap (zGW G) (zGW G).1 x) p7 zx0) ∨ g = 0 ∧ zap (zGW G) (zGW G).1 (zit (fun _ x => zap (zGW G) (zGW G).1 x) p7 zx0) = zit (fun _ x => zap (zGW G) (zGW G).1 x) p7 zx0))) (fun hok hM => ?_) (fun hok hM => ?_)
  · refine s_42 ?_
    refine s_161 ?_
    refine ⟨_, Or.inl ⟨rfl, rfl, 0, _, rfl, by omega, rfl, zF.rf.st rfl, ?_, Or.inl ⟨rfl, by omega⟩⟩⟩
    rw [zst_eq, hgb, hnt, ← hu0.1]
    rfl
  · rintro n i L S h2 hM2 (hI | hI | hI)
    · obtain ⟨rfl, rfl, p7, g, rfl, hp7, hm, hF, hd, hg⟩ := hI
      have hub := zuk_n (n := G.2.2.1) hw.2.2.2.1 hu0.2.1 p7
      have hg01 : g = 1 ∨ g = 0 := hg.imp And.left And.left
      constructor
      · intro c1
        first
        | (have hfx : zukp G.2.2.2.1 G.2.2.1 (zit (fun _ u => zukp G.2.2.2.1 G.2.2.1 u) p7 (zu0 G.2.2.2.2.1)) = zit (fun _ u => zukp G.2.2.2.1 G.2.2.1 u) p7 (zu0 G.2.2.2.2.1) := by
             rcases hg with hg | hg
             · exfalso
               have h1 := hg.2
               have h2 := zpc_le (zit (fun _ u => zukp G.2.2.2.1 G.2.2.1 u) p7 (zu0 G.2.2.2.2.1))
               have h3 := hg.1
               omega
             · exact hg.2
           rw [zuk_fix hw.2.2.2.1 hfx] at hd
           exact ⟨1000 + 8 - 0, by omega, Or.inr (Or.inl ⟨rfl, rfl, 0, _, rfl, by omega, rfl, hF, hd, fun c hc => by omega⟩)⟩)
        | (refine ⟨1000 + 8 - (k7 + 1), by omega, Or.inr (Or.inl ⟨rfl, rfl, k7 + 1, _, rfl, by omega, rfl, hF.st rfl, ?_, fun c hc => ?_⟩)⟩
           · rw [zst_nr (by omega)]; exact hd
           · by_cases e : c = k7
             · subst e; exact zst_eq _ _ _ _
             · rw [zst_ne (by omega)]; exact hz c (by omega))
      · intro c1
        constructor
        · intro c2
          first
          | (have hfx : zukp G.2.2.2.1 G.2.2.1 (zit (fun _ u => zukp G.2.2.2.1 G.2.2.1 u) p7 (zu0 G.2.2.2.2.1)) = zit (fun _ u => zukp G.2.2.2.1 G.2.2.1 u) p7 (zu0 G.2.2.2.2.1) := by
               rcases hg with hg | hg
               · exfalso
                 have h1 := hg.2
                 have h2 := zpc_le (zit (fun _ u => zukp G.2.2.2.1 G.2.2.1 u) p7 (zu0 G.2.2.2.2.1))
                 have h3 := hg.1
                 omega
               · exact hg.2
             rw [zuk_fix hw.2.2.2.1 hfx] at hd
             exact ⟨1000 + 8 - 0, by omega, Or.inr (Or.inl ⟨rfl, rfl, 0, _, rfl, by omega, rfl, hF, hd, fun c hc => by omega⟩)⟩)
          | (refine ⟨1000 + 8 - (k7 + 1), by omega, Or.inr (Or.inl ⟨rfl, rfl, k7 + 1, _, rfl, by omega, rfl, hF.st rfl, ?_, fun c hc => ?_⟩)⟩
             · rw [zst_nr (by omega)]; exact hd
             · by_cases e : c = k7
               · subst e; exact zst_eq _ _ _ _
               · rw [zst_ne (by omega)]; exact hz c (by omega))
        · intro c2
          refine s_134 (hp.D hF) hw hub hd (fun h3 hG hd3 => ?_)
          refine And.intro (by omega) ?_
          have hgr := zukp_g hub G.2.2.1 hw.2.2.2.1
          refine ⟨2000 + 7 - (p7 + 1), by omega, Or.inl ⟨rfl, rfl, p7 + 1, _, rfl, by omega, rfl, hF.tr (hG.mono ?_), hd3, ?_⟩⟩
          · intro r k9 hf
            unfold zDf at hf
            simp only [Bool.or_eq_false_iff] at hf
            exact hf.2
          · by_cases e : zukp G.2.2.2.1 G.2.2.1 (zit (fun _ u => zukp G.2.2.2.1 G.2.2.1 u) p7 (zu0 G.2.2.2.2.1)) = zit (fun _ u => zukp G.2.2.2.1 G.2.2.1 u) p7 (zu0 G.2.2.2.2.1)
            · rw [if_pos e]
              right
              refine ⟨rfl, ?_⟩
              show zukp G.2.2.2.1 G.2.2.1 (zukp G.2.2.2.1 G.2.2.1 _) = zukp G.2.2.2.1 G.2.2.1 _
              rw [e, e]
            · rw [if_neg e]
              left
              refine ⟨rfl, ?_⟩
              have h1 := hgr.2.resolve_left e
              have h2 := hg.resolve_right (fun q7 => e q7.2)
              show p7 + 1 ≤ zpc (zukp G.2.2.2.1 G.2.2.1 _)
              have h3 := h2.2
              omega
    · obtain ⟨rfl, rfl, k7, q7, rfl, hk, hm, hF, hd, hz⟩ := hI
      constructor
      · intro c3
        refine And.intro (by show 0 ≤ _ ∧ _ < (8 : Int); omega) ?_
        refine And.intro (by omega) ?_
        first
        | (have hfx : zukp G.2.2.2.1 G.2.2.1 (zit (fun _ u => zukp G.2.2.2.1 G.2.2.1 u) p7 (zu0 G.2.2.2.2.1)) = zit (fun _ u => zukp G.2.2.2.1 G.2.2.1 u) p7 (zu0 G.2.2.2.2.1) := by
             rcases hg with hg | hg
             · exfalso
               have h1 := hg.2
               have h2 := zpc_le (zit (fun _ u => zukp G.2.2.2.1 G.2.2.1 u) p7 (zu0 G.2.2.2.2.1))
               have h3 := hg.1
               omega
             · exact hg.2
           rw [zuk_fix hw.2.2.2.1 hfx] at hd
           exact ⟨1000 + 8 - 0, by omega, Or.inr (Or.inl ⟨rfl, rfl, 0, _, rfl, by omega, rfl, hF, hd, fun c hc => by omega⟩)⟩)
        | (refine ⟨1000 + 8 - (k7 + 1), by omega, Or.inr (Or.inl ⟨rfl, rfl, k7 + 1, _, rfl, by omega, rfl, hF.st rfl, ?_, fun c hc => ?_⟩)⟩
           · rw [zst_nr (by omega)]; exact hd
           · by_cases e : c = k7
             · subst e; exact zst_eq _ _ _ _
             · rw [zst_ne (by omega)]; exact hz c (by omega))
      · intro c3
        first
        | (have k8 : k7 = 8 := by omega
           subst k8
           exact ⟨49 - 0, by omega, Or.inr (Or.inr ⟨rfl, rfl, 0, _, rfl, by omega, rfl, hF, hd, fun c hc => hz c hc, Or.inl ⟨rfl, by omega⟩⟩)⟩)
        | (refine ⟨49 - (p7 + 1), by omega, Or.inr (Or.inr ⟨rfl, rfl, p7 + 1, _, rfl, by omega, rfl, hF.tr (hG.mono ?_), (hG _ _ rfl).trans hd, hz3, ?_⟩)⟩
           · intro r k9 hf
             unfold zDf at hf
             simp only [Bool.or_eq_false_iff] at hf
             exact hf.1
           · rcases hg3 with ⟨e1, e2⟩ | ⟨e1, e2⟩
             · right
               refine ⟨e1, ?_⟩
               show zap (zGW G) (zGW G).1 (zap (zGW G) (zGW G).1 _) = zap (zGW G) (zGW G).1 _
               rw [e2, e2]
             · left
               refine ⟨e1, ?_⟩
               show p7 + 1 ≤ zmu (zap (zGW G) (zGW G).1 _)
               rcases hg with hg | hg
               · have := hg.2
                 omega
               · rw [hg.2] at e2
                 omega)
    · obtain ⟨rfl, rfl, p7, g, rfl, hp7, hm, hF, hd, hz, hg⟩ := hI
      have hg01 : g = 1 ∨ g = 0 := hg.imp And.left And.left
      constructor
      · intro c4
        have hfx : zap (zGW G) (zGW G).1 (zit (fun _ x => zap (zGW G) (zGW G).1 x) p7 zx0) = zit (fun _ x => zap (zGW G) (zGW G).1 x) p7 zx0 := by
          rcases hg with hg | hg
          · exfalso
            have h1 := hg.2
            have h2 := zmu_le (zit (fun _ x => zap (zGW G) (zGW G).1 x) p7 zx0)
            have h3 := hg.1
            omega
          · exact hg.2
        rw [zah_fix hw.w hw.1 hfx] at hz
        exact hq _ hF hd hz
      · intro c4
        constructor
        · intro c5
          have hfx : zap (zGW G) (zGW G).1 (zit (fun _ x => zap (zGW G) (zGW G).1 x) p7 zx0) = zit (fun _ x => zap (zGW G) (zGW G).1 x) p7 zx0 := by
            rcases hg with hg | hg
            · exfalso
              have h1 := hg.2
              have h2 := zmu_le (zit (fun _ x => zap (zGW G) (zGW G).1 x) p7 zx0)
              have h3 := hg.1
              omega
            · exact hg.2
          rw [zah_fix hw.w hw.1 hfx] at hz
          exact hq _ hF hd hz
        · intro c5
          refine s_135 ((hp.D hF).v hw) hw.w hw.1 (zpre_n hw.w hw.1 p7) hz (fun h3 g3 hG hz3 hg3 => ?_)
          refine And.intro (by omega) ?_
          first
          | (have k8 : k7 = 8 := by omega
             subst k8
             exact ⟨49 - 0, by omega, Or.inr (Or.inr ⟨rfl, rfl, 0, _, rfl, by omega, rfl, hF, hd, fun c hc => hz c hc, Or.inl ⟨rfl, by omega⟩⟩)⟩)
          | (refine ⟨49 - (p7 + 1), by omega, Or.inr (Or.inr ⟨rfl, rfl, p7 + 1, _, rfl, by omega, rfl, hF.tr (hG.mono ?_), (hG _ _ rfl).trans hd, hz3, ?_⟩)⟩
             · intro r k9 hf
               unfold zDf at hf
               simp only [Bool.or_eq_false_iff] at hf
               exact hf.1
             · rcases hg3 with ⟨e1, e2⟩ | ⟨e1, e2⟩
               · right
                 refine ⟨e1, ?_⟩
                 show zap (zGW G) (zGW G).1 (zap (zGW G) (zGW G).1 _) = zap (zGW G) (zGW G).1 _
                 rw [e2, e2]
               · left
                 refine ⟨e1, ?_⟩
                 show p7 + 1 ≤ zmu (zap (zGW G) (zGW G).1 _)
                 rcases hg with hg | hg
                 · have := hg.2
                   omega
                 · rw [hg.2] at e2
                   omega)
