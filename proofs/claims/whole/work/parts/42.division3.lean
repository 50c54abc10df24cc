/-! The reference's division -/
theorem zPm.g {h : zM} {G : zG} (hp : zPm h 0 G) {v x : Int} (h0 : 0 ≤ v) (h6 : v < 6) (hx : x = 168 + v) : h 82 x = G.2.2.2.2.1 v + 1 := by
  have := hp.2.2.2.2.1 v h0 h6
  rw [Int.zero_add] at this
  rw [hx]
  exact this
theorem zPm.s {h : zM} {G : zG} (hp : zPm h 0 G) {i : Nat} (hi : i < G.2.2.1) (w : Nat) (hw : w < 5) {x : Int} (hx : x = 24 * (w : Int) + (i : Int)) : h 82 x = G.2.2.2.1 i w := by
  have := hp.2.2.2.1 i w hi hw
  rw [Int.zero_add] at this
  rw [hx]
  exact this
theorem zPm.n {h : zM} {G : zG} (hp : zPm h 0 G) : h 82 175 = (G.1 : Int) ∧ h 82 176 = (G.2.2.1 : Int) ∧ h 82 174 = 1 - G.2.2.2.2.2 := by
  obtain ⟨a, b, c, d, e, f⟩ := hp
  rw [Int.zero_add] at a b f
  exact ⟨a, b, f⟩
theorem zub_bit {u : Nat} (hu : u < 64) {o : Int} (ho : o < 106) : (100 ≤ o ∧ zbit (u : Int) (o - 100)) ↔ zub u o = true := by
  unfold zub
  rw [Bool.and_eq_true, decide_eq_true_eq]
  by_cases h : 100 ≤ o
  · have := zB_bit u hu (o - 100).toNat (by omega)
    rw [Int.toNat_of_nonneg (by omega)] at this
    unfold zbit
    rw [this]
    simp
  · simp [h]
set_option maxHeartbeats 4000000 in
set_option maxRecDepth 100000 in
/-- M.givenBits -/
theorem s_86 {h : zM} {G : zG} (hp : zPm h 0 G) (hw : zWf G) {Q : zQ} (hq : Q (some (.inl (zgn G.2.2.2.2.1 : Int))) h) : zR 86 [.inr (.inr 81)] h Q := by
  refine zx_met zk_86 (Or.inr ⟨_, _, rfl, rfl⟩) (Nat.le_of_ble_eq_true rfl) (fun _ => false) 1000 (fun m j L S h2 => j = 4 ∧ S = [] ∧ h2 = h ∧ ∃ (k7 y7 : Nat), L = [some (.inr (.inr 81)), some (.inl (y7 : Int)), some (.inl (k7 : Int))] ∧ k7 ≤ 6 ∧ m = 6 - k7 ∧ y7 < 64 ∧ y7 = zit (fun v u => if G.2.2.2.2.1 (v : Int) < 0 then u else u ||| 2 ^ v) k7 0) (fun hok hM => ?_) (fun hok hM => ?_)
  · exact ⟨_, rfl, rfl, rfl, 0, 0, rfl, by omega, rfl, by omega, rfl⟩
  · rintro m j L S h2 hM2 ⟨rfl, rfl, rfl, k7, y7, rfl, hk, hm, hy, he⟩
    constructor
    · intro c1
      refine And.intro (by omega) ?_
      refine And.intro (by first | (show 0 ≤ _ ∧ _ < (708 : Int); omega) | (show 0 ≤ _ ∧ _ < (8 : Int); omega)) ?_
      have hgk := hp.g (v := (k7 : Int)) (by omega) (by omega) rfl
      have hgb := hw.2.2.2.2.1 (k7 : Int) (by omega) (by omega)
      have hs := zB_shl k7 (by omega)
      have ho := zB_or _ hy _ hs.2
      constructor
      · intro c2
        refine And.intro (by omega) ?_
        first
        | (refine ⟨6 - (k7 + 1), by omega, rfl, rfl, rfl, k7 + 1, y7 ||| 2 ^ k7, ?_, by omega, rfl, ho.2, ?_⟩
           · rw [hs.1, ho.1]; rfl
           · show _ = if G.2.2.2.2.1 (k7 : Int) < 0 then _ else _
             rw [if_neg (by omega), he])
        | (refine ⟨6 - (k7 + 1), by omega, rfl, rfl, rfl, k7 + 1, y7, ?_, by omega, rfl, hy, ?_⟩
           · rw [(zB_self _ hy).2.1]; rfl
           · show _ = if G.2.2.2.2.1 (k7 : Int) < 0 then _ else _
             rw [if_pos (by omega), he])
      · intro c2
        refine And.intro (by omega) ?_
        first
        | (refine ⟨6 - (k7 + 1), by omega, rfl, rfl, rfl, k7 + 1, y7 ||| 2 ^ k7, ?_, by omega, rfl, ho.2, ?_⟩
           · rw [hs.1, ho.1]; rfl
           · show _ = if G.2.2.2.2.1 (k7 : Int) < 0 then _ else _
             rw [if_neg (by omega), he])
        | (refine ⟨6 - (k7 + 1), by omega, rfl, rfl, rfl, k7 + 1, y7, ?_, by omega, rfl, hy, ?_⟩
           · rw [(zB_self _ hy).2.1]; rfl
           · show _ = if G.2.2.2.2.1 (k7 : Int) < 0 then _ else _
             rw [if_pos (by omega), he])
    · intro c1
      have k6 : k7 = 6 := by omega
      subst k6
      rw [he]
      exact hq
def zKf : Nat → Int → Bool := fun r k => Nat.beq r 81 && decide (k = 12)
theorem zPm.K {h h2 : zM} {G : zG} {o : Int} (hp : zPm h o G) (hF : zF zKf h h2) : zPm h2 o G := hp.fr (fun _ => hF _ _ rfl)
set_option maxHeartbeats 4000000 in
set_option maxRecDepth 100000 in
/-- M.knows -/
theorem s_69 {h : zM} {G : zG} (hp : zPm h 0 G) (hw : zWf G) {Q : zQ} (hq : ∀ h2, zF zKf h h2 → h2 81 12 = (zUG G : Int) → Q none h2) : zR 69 [.inr (.inr 81)] h Q := by
  have hu0 := zu0_gn G.2.2.2.2.1
  have hn := hp.n
  have hn24 := hw.2.1
  refine zx_met zk_69 (Or.inr ⟨_, _, rfl, rfl⟩) (Nat.le_of_ble_eq_true rfl) (fun _ => false) 1000 (fun m j L S h2 => (j = 5 ∧ S = [] ∧ ∃ (k7 y7 : Nat) (q2 q3 : Option zV), L = [some (.inr (.inr 81)), some (.inl (k7 : Int)), q2, q3] ∧ k7 ≤ 6 ∧ m = 10000 + 6 - k7 ∧ zF zKf h h2 ∧ y7 < 64 ∧ h2 81 12 = (y7 : Int) ∧ y7 = zit (fun v u => if G.2.2.2.2.1 (v : Int) < 0 then u ||| 2 ^ v else u) k7 0) ∨
    (j = 29 ∧ S = [] ∧ ∃ (r7 : Nat) (q2 q3 : Option zV), L = [some (.inr (.inr 81)), some (.inl (r7 : Int)), q2, q3] ∧ r7 ≤ 6 ∧ m = (6 - r7) * 100 + 50 ∧ zF zKf h h2 ∧ h2 81 12 = ((zit (fun _ u => zukp G.2.2.2.1 G.2.2.1 u) r7 (zu0 G.2.2.2.2.1) : Nat) : Int)) ∨
    (j = 34 ∧ S = [] ∧ ∃ (r7 i7 : Nat) (q3 : Option zV), L = [some (.inr (.inr 81)), some (.inl (r7 : Int)), some (.inl (i7 : Int)), q3] ∧ r7 < 6 ∧ i7 ≤ G.2.2.1 ∧ m = (6 - r7) * 100 + 24 - i7 ∧ zF zKf h h2 ∧ h2 81 12 = ((zukp G.2.2.2.1 i7 (zit (fun _ u => zukp G.2.2.2.1 G.2.2.1 u) r7 (zu0 G.2.2.2.2.1)) : Nat) : Int))) (fun hok hM => ?_) (fun hok hM => ?_)
  · exact ⟨_, Or.inl ⟨rfl, rfl, 0, 0, _, _, rfl, by omega, rfl, zF.rf.st rfl, by omega, zst_eq _ _ _ _, rfl⟩⟩
  · rintro n i L S h2 hM2 (hI | hI | hI)
    · obtain ⟨rfl, rfl, k7, y7, q2, q3, rfl, hk, hm, hF, hy, hd, he⟩ := hI
      constructor
      · intro c1
        have hgk := (hp.K hF).g (v := (k7 : Int)) (by omega) (by omega) rfl
        have hgb := hw.2.2.2.2.1 (k7 : Int) (by omega) (by omega)
        have hs := zB_shl k7 (by omega)
        have ho := zB_or _ hy _ hs.2
        refine And.intro (by omega) ?_
        refine And.intro (by first | (show 0 ≤ _ ∧ _ < (708 : Int); omega) | (show 0 ≤ _ ∧ _ < (8 : Int); omega)) ?_
        constructor
        · intro c2
          refine And.intro (by omega) ?_
          first
          | (refine ⟨10000 + 6 - (k7 + 1), by omega, Or.inl ⟨rfl, rfl, k7 + 1, y7 ||| 2 ^ k7, _, _, rfl, by omega, rfl, hF.st rfl, ho.2, ?_, ?_⟩⟩
             · rw [zst_eq, hd, hs.1, ho.1]
             · show _ = if G.2.2.2.2.1 (k7 : Int) < 0 then _ else _
               rw [if_pos (by omega), he])
          | (refine ⟨10000 + 6 - (k7 + 1), by omega, Or.inl ⟨rfl, rfl, k7 + 1, y7, _, _, rfl, by omega, rfl, hF.st rfl, hy, ?_, ?_⟩⟩
             · rw [zst_eq, hd, (zB_self _ hy).2.1]
             · show _ = if G.2.2.2.2.1 (k7 : Int) < 0 then _ else _
               rw [if_neg (by omega), he])
        · intro c2
          refine And.intro (by omega) ?_
          first
          | (refine ⟨10000 + 6 - (k7 + 1), by omega, Or.inl ⟨rfl, rfl, k7 + 1, y7 ||| 2 ^ k7, _, _, rfl, by omega, rfl, hF.st rfl, ho.2, ?_, ?_⟩⟩
             · rw [zst_eq, hd, hs.1, ho.1]
             · show _ = if G.2.2.2.2.1 (k7 : Int) < 0 then _ else _
               rw [if_pos (by omega), he])
          | (refine ⟨10000 + 6 - (k7 + 1), by omega, Or.inl ⟨rfl, rfl, k7 + 1, y7, _, _, rfl, by omega, rfl, hF.st rfl, hy, ?_, ?_⟩⟩
             · rw [zst_eq, hd, (zB_self _ hy).2.1]
             · show _ = if G.2.2.2.2.1 (k7 : Int) < 0 then _ else _
               rw [if_neg (by omega), he])
      · intro c1
        first
        | (have k6 : k7 = 6 := by omega
           subst k6
           have he : y7 = zu0 G.2.2.2.2.1 := he
           subst he
           exact ⟨(6 - 0) * 100 + 50, by omega, Or.inr (Or.inl ⟨rfl, rfl, 0, _, _, rfl, by omega, rfl, hF, hd⟩)⟩)
        | (have i24 : i7 = G.2.2.1 := by omega
           subst i24
           exact ⟨(6 - (r7 + 1)) * 100 + 50, by omega, Or.inr (Or.inl ⟨rfl, rfl, r7 + 1, _, _, rfl, by omega, rfl, hF, hd⟩)⟩)
    · obtain ⟨rfl, rfl, r7, q2, q3, rfl, hr, hm, hF, hd⟩ := hI
      constructor
      · intro c3
        first
        | (exact ⟨(6 - r7) * 100 + 24 - 0, by omega, Or.inr (Or.inr ⟨rfl, rfl, r7, 0, _, rfl, by omega, by omega, rfl, hF, hd⟩)⟩)
        | (refine ⟨(6 - r7) * 100 + 24 - (i7 + 1), by omega, Or.inr (Or.inr ⟨rfl, rfl, r7, i7 + 1, _, rfl, by omega, by omega, rfl, hF.st rfl, ?_⟩)⟩
           rw [zst_eq]
           show _ = ((zuk1 (G.2.2.2.1 i7) (zukp G.2.2.2.1 i7 (zit (fun _ u => zukp G.2.2.2.1 G.2.2.1 u) r7 (zu0 G.2.2.2.2.1))) : Nat) : Int)
           first
           | (rw [hd, (zB_self _ hb).2.1, zuk1, if_neg]
              rintro ⟨a0, a1 | a1⟩
              all_goals first | omega | exact absurd a1 (by assumption))
           | (have hs := zB_shl (G.2.2.2.1 i7 1).toNat (by omega)
              rw [Int.toNat_of_nonneg (by omega)] at hs
              have ho := zB_or _ hb _ hs.2
              rw [hd, t1, hs.1, ho.1, zuk1, if_pos]
              exact ⟨by omega, by first | exact Or.inl (by assumption) | exact Or.inr (by assumption)⟩))
      · intro c3
        have r6 : r7 = 6 := by omega
        subst r6
        exact hq _ hF hd
    · obtain ⟨rfl, rfl, r7, i7, q3, rfl, hr, hi, hm, hF, hd⟩ := hI
      have hub := zuk_n (n := G.2.2.1) hw.2.2.2.1 hu0.2.1 r7
      have hb := (zukp_g hub i7 (fun x hx => hw.2.2.2.1 x (by omega))).1
      have hp2 := hp.K hF
      have hn2 := hp2.n
      refine And.intro (by first | (show 0 ≤ _ ∧ _ < (708 : Int); omega) | (show 0 ≤ _ ∧ _ < (8 : Int); omega)) ?_
      constructor
      · intro c4
        have ht := hw.2.2.2.1 i7 (by omega)
        unfold zWS at ht
        have t0 : h2 82 (i7 : Int) = _ := hp2.s (show i7 < G.2.2.1 by omega) 0 (by omega) (by omega)
        have t1 : h2 82 (24 + (i7 : Int)) = _ := hp2.s (show i7 < G.2.2.1 by omega) 1 (by omega) (by omega)
        have t2 : h2 82 (48 + (i7 : Int)) = _ := hp2.s (show i7 < G.2.2.1 by omega) 2 (by omega) (by omega)
        have t4 : h2 82 (96 + (i7 : Int)) = _ := hp2.s (show i7 < G.2.2.1 by omega) 4 (by omega) (by omega)
        refine And.intro (by first | (show 0 ≤ _ ∧ _ < (708 : Int); omega) | (show 0 ≤ _ ∧ _ < (8 : Int); omega)) ?_
        constructor
        · intro c5
          refine And.intro (by omega) ?_
          refine And.intro (by first | (show 0 ≤ _ ∧ _ < (708 : Int); omega) | (show 0 ≤ _ ∧ _ < (8 : Int); omega)) ?_
          refine s_68 (by omega) (fun b2 => ?_) (fun b2 => ?_)
          all_goals rw [t2, hd, zub_bit hb (by omega)] at b2
          · refine And.intro (fun c => absurd c (by decide)) (fun _ => ?_)
            refine And.intro (fun c => absurd c (by decide)) (fun _ => ?_)
            refine And.intro (by omega) ?_
            refine And.intro (by first | (show 0 ≤ _ ∧ _ < (708 : Int); omega) | (show 0 ≤ _ ∧ _ < (8 : Int); omega)) ?_
            refine And.intro (by omega) ?_
            first
            | (exact ⟨(6 - r7) * 100 + 24 - 0, by omega, Or.inr (Or.inr ⟨rfl, rfl, r7, 0, _, rfl, by omega, by omega, rfl, hF, hd⟩)⟩)
            | (refine ⟨(6 - r7) * 100 + 24 - (i7 + 1), by omega, Or.inr (Or.inr ⟨rfl, rfl, r7, i7 + 1, _, rfl, by omega, by omega, rfl, hF.st rfl, ?_⟩)⟩
               rw [zst_eq]
               show _ = ((zuk1 (G.2.2.2.1 i7) (zukp G.2.2.2.1 i7 (zit (fun _ u => zukp G.2.2.2.1 G.2.2.1 u) r7 (zu0 G.2.2.2.2.1))) : Nat) : Int)
               first
               | (rw [hd, (zB_self _ hb).2.1, zuk1, if_neg]
                  rintro ⟨a0, a1 | a1⟩
                  all_goals first | omega | exact absurd a1 (by assumption))
               | (have hs := zB_shl (G.2.2.2.1 i7 1).toNat (by omega)
                  rw [Int.toNat_of_nonneg (by omega)] at hs
                  have ho := zB_or _ hb _ hs.2
                  rw [hd, t1, hs.1, ho.1, zuk1, if_pos]
                  exact ⟨by omega, by first | exact Or.inl (by assumption) | exact Or.inr (by assumption)⟩))
          · refine And.intro (fun _ => ?_) (fun c => absurd (by decide) c)
            refine And.intro (by omega) ?_
            refine And.intro (by first | (show 0 ≤ _ ∧ _ < (708 : Int); omega) | (show 0 ≤ _ ∧ _ < (8 : Int); omega)) ?_
            refine s_68 (by omega) (fun b4 => ?_) (fun b4 => ?_)
            all_goals rw [t4, hd, zub_bit hb (by omega)] at b4
            · refine And.intro (fun c => absurd c (by decide)) (fun _ => ?_)
              refine And.intro (fun c => absurd c (by decide)) (fun _ => ?_)
              refine And.intro (by omega) ?_
              refine And.intro (by first | (show 0 ≤ _ ∧ _ < (708 : Int); omega) | (show 0 ≤ _ ∧ _ < (8 : Int); omega)) ?_
              refine And.intro (by omega) ?_
              first
              | (exact ⟨(6 - r7) * 100 + 24 - 0, by omega, Or.inr (Or.inr ⟨rfl, rfl, r7, 0, _, rfl, by omega, by omega, rfl, hF, hd⟩)⟩)
              | (refine ⟨(6 - r7) * 100 + 24 - (i7 + 1), by omega, Or.inr (Or.inr ⟨rfl, rfl, r7, i7 + 1, _, rfl, by omega, by omega, rfl, hF.st rfl, ?_⟩)⟩
                 rw [zst_eq]
                 show _ = ((zuk1 (G.2.2.2.1 i7) (zukp G.2.2.2.1 i7 (zit (fun _ u => zukp G.2.2.2.1 G.2.2.1 u) r7 (zu0 G.2.2.2.2.1))) : Nat) : Int)
                 first
                 | (rw [hd, (zB_self _ hb).2.1, zuk1, if_neg]
                    rintro ⟨a0, a1 | a1⟩
                    all_goals first | omega | exact absurd a1 (by assumption))
                 | (have hs := zB_shl (G.2.2.2.1 i7 1).toNat (by omega)
                    rw [Int.toNat_of_nonneg (by omega)] at hs
                    have ho := zB_or _ hb _ hs.2
                    rw [hd, t1, hs.1, ho.1, zuk1, if_pos]
                    exact ⟨by omega, by first | exact Or.inl (by assumption) | exact Or.inr (by assumption)⟩))
            · refine And.intro (fun _ => ?_) (fun c => absurd (by decide) c)
              refine And.intro (fun _ => ?_) (fun c => absurd (by decide) c)
              refine And.intro (by omega) ?_
              first
              | (exact ⟨(6 - r7) * 100 + 24 - 0, by omega, Or.inr (Or.inr ⟨rfl, rfl, r7, 0, _, rfl, by omega, by omega, rfl, hF, hd⟩)⟩)
              | (refine ⟨(6 - r7) * 100 + 24 - (i7 + 1), by omega, Or.inr (Or.inr ⟨rfl, rfl, r7, i7 + 1, _, rfl, by omega, by omega, rfl, hF.st rfl, ?_⟩)⟩
                 rw [zst_eq]
                 show _ = ((zuk1 (G.2.2.2.1 i7) (zukp G.2.2.2.1 i7 (zit (fun _ u => zukp G.2.2.2.1 G.2.2.1 u) r7 (zu0 G.2.2.2.2.1))) : Nat) : Int)
                 first
                 | (rw [hd, (zB_self _ hb).2.1, zuk1, if_neg]
                    rintro ⟨a0, a1 | a1⟩
                    all_goals first | omega | exact absurd a1 (by assumption))
                 | (have hs := zB_shl (G.2.2.2.1 i7 1).toNat (by omega)
                    rw [Int.toNat_of_nonneg (by omega)] at hs
                    have ho := zB_or _ hb _ hs.2
                    rw [hd, t1, hs.1, ho.1, zuk1, if_pos]
                    exact ⟨by omega, by first | exact Or.inl (by assumption) | exact Or.inr (by assumption)⟩))
        · intro c5
          refine And.intro (fun _ => ?_) (fun c => absurd (by decide) c)
          refine And.intro (by omega) ?_
          first
          | (exact ⟨(6 - r7) * 100 + 24 - 0, by omega, Or.inr (Or.inr ⟨rfl, rfl, r7, 0, _, rfl, by omega, by omega, rfl, hF, hd⟩)⟩)
          | (refine ⟨(6 - r7) * 100 + 24 - (i7 + 1), by omega, Or.inr (Or.inr ⟨rfl, rfl, r7, i7 + 1, _, rfl, by omega, by omega, rfl, hF.st rfl, ?_⟩)⟩
             rw [zst_eq]
             show _ = ((zuk1 (G.2.2.2.1 i7) (zukp G.2.2.2.1 i7 (zit (fun _ u => zukp G.2.2.2.1 G.2.2.1 u) r7 (zu0 G.2.2.2.2.1))) : Nat) : Int)
             first
             | (rw [hd, (zB_self _ hb).2.1, zuk1, if_neg]
                rintro ⟨a0, a1 | a1⟩
                all_goals first | omega | exact absurd a1 (by assumption))
             | (have hs := zB_shl (G.2.2.2.1 i7 1).toNat (by omega)
                rw [Int.toNat_of_nonneg (by omega)] at hs
                have ho := zB_or _ hb _ hs.2
                rw [hd, t1, hs.1, ho.1, zuk1, if_pos]
                exact ⟨by omega, by first | exact Or.inl (by assumption) | exact Or.inr (by assumption)⟩))
      · intro c4
        refine And.intro (by omega) ?_
        first
        | (have k6 : k7 = 6 := by omega
           subst k6
           have he : y7 = zu0 G.2.2.2.2.1 := he
           subst he
           exact ⟨(6 - 0) * 100 + 50, by omega, Or.inr (Or.inl ⟨rfl, rfl, 0, _, _, rfl, by omega, rfl, hF, hd⟩)⟩)
        | (have i24 : i7 = G.2.2.1 := by omega
           subst i24
           exact ⟨(6 - (r7 + 1)) * 100 + 50, by omega, Or.inr (Or.inl ⟨rfl, rfl, r7 + 1, _, _, rfl, by omega, rfl, hF, hd⟩)⟩)
theorem s_70t {x o : Int} (e : x = o) (ho : -1000 ≤ o ∧ o < 106) {h : zM} {Q : zQ} (hq : Q (some (.inl (zob o : Int))) h) : zR 70 [.inl x] h Q := by
  subst e
  refine s_70 (by omega) (fun c => ?_) (fun c => ?_)
  · rw [zob, if_pos c] at hq
    exact hq
  · rw [← zob_e (by omega)] at hq
    exact hq
set_option maxHeartbeats 4000000 in
set_option maxRecDepth 100000 in
/-- M.readIn -/
theorem s_71 {h : zM} {W : zW} (hv : zVs h W) (hw : zWw W) {b : Nat} (hb : b < W.1) {x : Nat → Nat} (hx : ∀ c, x c < 64) (ha : ∀ c : Nat, c < 8 → h 86 (c : Int) = (x c : Int)) {Q : zQ} (hq : Q (some (.inl (zaf W x b : Int))) h) : zR 71 [.inr (.inr 81), .inl (b : Int)] h Q := by
  have h8 := hv.2.1
  have hcn := (hw.2 b hb).1
  have hE := (hw.2 b hb).2.1
  have hlt := zen_b hE hx
  unfold zWE at hE
  obtain ⟨-, f2, f3, f4⟩ := hv.2.2 b hb
  have e1 : h 82 (128 + (b : Int)) = _ := hv.at hb 1 (by omega) (by omega) (by omega)
  have e2 : h 82 (136 + (b : Int)) = _ := hv.at hb 2 (by omega) (by omega) (by omega)
  have e3 : h 82 (144 + (b : Int)) = _ := hv.at hb 3 (by omega) (by omega) (by omega)
  have e4 : h 82 (152 + (b : Int)) = _ := hv.at hb 4 (by omega) (by omega) (by omega)
  have e5 : h 82 (160 + (b : Int)) = _ := hv.at hb 5 (by omega) (by omega) (by omega)
  refine zx_met zk_71 (Or.inr ⟨_, _, rfl, rfl⟩) (Nat.le_of_ble_eq_true rfl) (fun _ => false) 1000 (fun m j L S h2 => j = 66 ∧ S = [] ∧ h2 = h ∧ ∃ (k7 : Nat) (y7 i7 : Int) (z7 : Nat) (q2 : Option zV), L = [some (.inr (.inr 81)), some (.inl (b : Int)), q2, some (.inl y7), some (.inl (h 82 (120 + (b : Int)))), some (.inl i7)] ∧ i7 = h 82 (120 + (b : Int)) + (k7 : Int) - 1 ∧ (k7 : Int) ≤ W.2.1 b 1 ∧ m = k7 ∧ y7 = (z7 : Int) ∧ z7 < 64 ∧ zrs (W.2.2 b) (W.2.1 b 1).toNat (zen (W.2.1 b) x) = zrs (W.2.2 b) k7 z7) (fun hok hM => ?_) (fun hok hM => ?_)
  · refine And.intro (by omega) ?_
    refine And.intro (by first | (show 0 ≤ _ ∧ _ < (708 : Int); omega) | (show 0 ≤ _ ∧ _ < (8 : Int); omega)) ?_
    constructor
    · intro c1
      constructor
      · intro c2
        refine And.intro (by omega) ?_
        refine And.intro (by first | (show 0 ≤ _ ∧ _ < (708 : Int); omega) | (show 0 ≤ _ ∧ _ < (8 : Int); omega)) ?_
        refine And.intro (by first | (show 0 ≤ _ ∧ _ < (708 : Int); omega) | (show 0 ≤ _ ∧ _ < (8 : Int); omega)) ?_
        refine And.intro (by omega) ?_
        refine And.intro (by first | (show 0 ≤ _ ∧ _ < (708 : Int); omega) | (show 0 ≤ _ ∧ _ < (8 : Int); omega)) ?_
        refine And.intro (by omega) ?_
        refine And.intro (by first | (show 0 ≤ _ ∧ _ < (708 : Int); omega) | (show 0 ≤ _ ∧ _ < (8 : Int); omega)) ?_
        refine And.intro (by omega) ?_
        refine And.intro (by first | (show 0 ≤ _ ∧ _ < (708 : Int); omega) | (show 0 ≤ _ ∧ _ < (8 : Int); omega)) ?_
        refine And.intro (by omega) ?_
        refine And.intro (by omega) ?_
        refine ⟨_, rfl, rfl, rfl, (W.2.1 b 1).toNat, _, _, zen (W.2.1 b) x, _, rfl, by omega, by omega, rfl, ?_, hlt, rfl⟩
        first
        | (exfalso; omega)
        | (rw [zen, if_pos (by omega), if_neg (by omega)]; decide)
        | (have a1 := ha (W.2.1 b 3).toNat (by omega)
           rw [Int.toNat_of_nonneg (by omega)] at a1
           rw [zen, if_neg (by omega), if_neg (by omega), e3, a1, Nat.or_zero]
           exact (zB_self _ (hx _)).2.1)
        | (have a1 := ha (W.2.1 b 3).toNat (by omega)
           have a2 := ha (W.2.1 b 4).toNat (by omega)
           rw [Int.toNat_of_nonneg (by omega)] at a1 a2
           have hs := zB_shl (W.2.1 b 5).toNat (by omega)
           rw [Int.toNat_of_nonneg (by omega)] at hs
           have o1 := zB_or _ (hx (W.2.1 b 4).toNat) _ hs.2
           have o2 := zB_or _ (hx (W.2.1 b 3).toNat) _ o1.2
           rw [zen, if_neg (by omega), if_pos (by omega), e3, e4, e5, a1, a2, hs.1, o1.1, o2.1])
      · intro c2
        refine And.intro (by omega) ?_
        refine And.intro (by first | (show 0 ≤ _ ∧ _ < (708 : Int); omega) | (show 0 ≤ _ ∧ _ < (8 : Int); omega)) ?_
        refine And.intro (by omega) ?_
        refine And.intro (by first | (show 0 ≤ _ ∧ _ < (708 : Int); omega) | (show 0 ≤ _ ∧ _ < (8 : Int); omega)) ?_
        refine And.intro (by omega) ?_
        refine And.intro (by omega) ?_
        refine ⟨_, rfl, rfl, rfl, (W.2.1 b 1).toNat, _, _, zen (W.2.1 b) x, _, rfl, by omega, by omega, rfl, ?_, hlt, rfl⟩
        first
        | (exfalso; omega)
        | (rw [zen, if_pos (by omega), if_neg (by omega)]; decide)
        | (have a1 := ha (W.2.1 b 3).toNat (by omega)
           rw [Int.toNat_of_nonneg (by omega)] at a1
           rw [zen, if_neg (by omega), if_neg (by omega), e3, a1, Nat.or_zero]
           exact (zB_self _ (hx _)).2.1)
        | (have a1 := ha (W.2.1 b 3).toNat (by omega)
           have a2 := ha (W.2.1 b 4).toNat (by omega)
           rw [Int.toNat_of_nonneg (by omega)] at a1 a2
           have hs := zB_shl (W.2.1 b 5).toNat (by omega)
           rw [Int.toNat_of_nonneg (by omega)] at hs
           have o1 := zB_or _ (hx (W.2.1 b 4).toNat) _ hs.2
           have o2 := zB_or _ (hx (W.2.1 b 3).toNat) _ o1.2
           rw [zen, if_neg (by omega), if_pos (by omega), e3, e4, e5, a1, a2, hs.1, o1.1, o2.1])
    · intro c1
      refine And.intro (by omega) ?_
      refine And.intro (by first | (show 0 ≤ _ ∧ _ < (708 : Int); omega) | (show 0 ≤ _ ∧ _ < (8 : Int); omega)) ?_
      refine And.intro (by first | (show 0 ≤ _ ∧ _ < (708 : Int); omega) | (show 0 ≤ _ ∧ _ < (8 : Int); omega)) ?_
      constructor
      · intro c3
        refine And.intro (by omega) ?_
        refine And.intro (by first | (show 0 ≤ _ ∧ _ < (708 : Int); omega) | (show 0 ≤ _ ∧ _ < (8 : Int); omega)) ?_
        refine And.intro (by first | (show 0 ≤ _ ∧ _ < (708 : Int); omega) | (show 0 ≤ _ ∧ _ < (8 : Int); omega)) ?_
        refine And.intro (by omega) ?_
        refine And.intro (by first | (show 0 ≤ _ ∧ _ < (708 : Int); omega) | (show 0 ≤ _ ∧ _ < (8 : Int); omega)) ?_
        refine And.intro (by omega) ?_
        refine And.intro (by first | (show 0 ≤ _ ∧ _ < (708 : Int); omega) | (show 0 ≤ _ ∧ _ < (8 : Int); omega)) ?_
        refine And.intro (by omega) ?_
        refine And.intro (by first | (show 0 ≤ _ ∧ _ < (708 : Int); omega) | (show 0 ≤ _ ∧ _ < (8 : Int); omega)) ?_
        refine And.intro (by omega) ?_
        refine And.intro (by omega) ?_
        refine ⟨_, rfl, rfl, rfl, (W.2.1 b 1).toNat, _, _, zen (W.2.1 b) x, _, rfl, by omega, by omega, rfl, ?_, hlt, rfl⟩
        first
        | (exfalso; omega)
        | (rw [zen, if_pos (by omega), if_neg (by omega)]; decide)
        | (have a1 := ha (W.2.1 b 3).toNat (by omega)
           rw [Int.toNat_of_nonneg (by omega)] at a1
           rw [zen, if_neg (by omega), if_neg (by omega), e3, a1, Nat.or_zero]
           exact (zB_self _ (hx _)).2.1)
        | (have a1 := ha (W.2.1 b 3).toNat (by omega)
           have a2 := ha (W.2.1 b 4).toNat (by omega)
           rw [Int.toNat_of_nonneg (by omega)] at a1 a2
           have hs := zB_shl (W.2.1 b 5).toNat (by omega)
           rw [Int.toNat_of_nonneg (by omega)] at hs
           have o1 := zB_or _ (hx (W.2.1 b 4).toNat) _ hs.2
           have o2 := zB_or _ (hx (W.2.1 b 3).toNat) _ o1.2
           rw [zen, if_neg (by omega), if_pos (by omega), e3, e4, e5, a1, a2, hs.1, o1.1, o2.1])
      · intro c3
        refine And.intro (by omega) ?_
        refine And.intro (by first | (show 0 ≤ _ ∧ _ < (708 : Int); omega) | (show 0 ≤ _ ∧ _ < (8 : Int); omega)) ?_
        refine And.intro (by omega) ?_
        refine And.intro (by first | (show 0 ≤ _ ∧ _ < (708 : Int); omega) | (show 0 ≤ _ ∧ _ < (8 : Int); omega)) ?_
        refine And.intro (by omega) ?_
        refine And.intro (by omega) ?_
        refine ⟨_, rfl, rfl, rfl, (W.2.1 b 1).toNat, _, _, zen (W.2.1 b) x, _, rfl, by omega, by omega, rfl, ?_, hlt, rfl⟩
        first
        | (exfalso; omega)
        | (rw [zen, if_pos (by omega), if_neg (by omega)]; decide)
        | (have a1 := ha (W.2.1 b 3).toNat (by omega)
           rw [Int.toNat_of_nonneg (by omega)] at a1
           rw [zen, if_neg (by omega), if_neg (by omega), e3, a1, Nat.or_zero]
           exact (zB_self _ (hx _)).2.1)
        | (have a1 := ha (W.2.1 b 3).toNat (by omega)
           have a2 := ha (W.2.1 b 4).toNat (by omega)
           rw [Int.toNat_of_nonneg (by omega)] at a1 a2
           have hs := zB_shl (W.2.1 b 5).toNat (by omega)
           rw [Int.toNat_of_nonneg (by omega)] at hs
           have o1 := zB_or _ (hx (W.2.1 b 4).toNat) _ hs.2
           have o2 := zB_or _ (hx (W.2.1 b 3).toNat) _ o1.2
           rw [zen, if_neg (by omega), if_pos (by omega), e3, e4, e5, a1, a2, hs.1, o1.1, o2.1])
  · rintro m j L S h2 hM2 ⟨rfl, rfl, rfl, k7, y7, i7, z7, q2, rfl, hi, hk, hm, rfl, hy, he⟩
    constructor
    · intro c4
      have k0 : k7 = 0 := by omega
      subst k0
      rw [zaf, he] at hq
      exact hq
    · intro c4
      obtain ⟨k7, rfl⟩ : ∃ k2, k7 = k2 + 1 := ⟨k7 - 1, by omega⟩
      have hkc : (k7 : Int) < W.2.1 b 1 := by omega
      have t0 : h2 82 i7 = _ := hv.pt hb hkc 0 (by omega) (by omega)
      have t1 : h2 82 (24 + i7) = _ := hv.pt hb hkc 1 (by omega) (by omega)
      have t2 : h2 82 (48 + i7) = _ := hv.pt hb hkc 2 (by omega) (by omega)
      have t4 : h2 82 (96 + i7) = _ := hv.pt hb hkc 4 (by omega) (by omega)
      have ht := (hw.2 b hb).2.2 k7 hkc
      have ht2 := ht
      unfold zWS at ht2
      have o2 := zB_or _ (zob_b (o := W.2.2 b k7 2) (by omega)) _ (zob_b (o := W.2.2 b k7 4) (by omega))
      refine And.intro (by first | (show 0 ≤ _ ∧ _ < (708 : Int); omega) | (show 0 ≤ _ ∧ _ < (8 : Int); omega)) ?_
      constructor
      · intro c5
        refine And.intro (by omega) ?_
        refine And.intro (by first | (show 0 ≤ _ ∧ _ < (708 : Int); omega) | (show 0 ≤ _ ∧ _ < (8 : Int); omega)) ?_
        refine And.intro (by omega) ?_
        refine And.intro (by first | (show 0 ≤ _ ∧ _ < (708 : Int); omega) | (show 0 ≤ _ ∧ _ < (8 : Int); omega)) ?_
        refine s_70t t2 (by omega) ?_
        refine And.intro (by omega) ?_
        refine And.intro (by first | (show 0 ≤ _ ∧ _ < (708 : Int); omega) | (show 0 ≤ _ ∧ _ < (8 : Int); omega)) ?_
        refine s_70t t4 (by omega) ?_
        refine And.intro (by omega) ?_
        refine ⟨k7, by omega, rfl, rfl, rfl, k7, _, _, zrs1 (W.2.2 b k7) z7, _, rfl, by omega, by omega, rfl, ?_, zrs1_b ht hy, he⟩
        first
        | (have hcl := zB_clr z7 hy (W.2.2 b k7 1).toNat (by omega)
           rw [Int.toNat_of_nonneg (by omega)] at hcl
           have o3 := zB_or _ hcl.2 _ o2.2
           rw [t1, hcl.1, o2.1, o3.1, zrs1, if_pos (by omega)])
        | (have o3 := zB_or _ hy _ o2.2
           rw [(zB_self _ hy).1, o2.1, o3.1, zrs1, if_neg (by omega)])
      · intro c5
        refine And.intro (by omega) ?_
        refine And.intro (by first | (show 0 ≤ _ ∧ _ < (708 : Int); omega) | (show 0 ≤ _ ∧ _ < (8 : Int); omega)) ?_
        refine s_70t t2 (by omega) ?_
        refine And.intro (by omega) ?_
        refine And.intro (by first | (show 0 ≤ _ ∧ _ < (708 : Int); omega) | (show 0 ≤ _ ∧ _ < (8 : Int); omega)) ?_
        refine s_70t t4 (by omega) ?_
        refine And.intro (by omega) ?_
        refine ⟨k7, by omega, rfl, rfl, rfl, k7, _, _, zrs1 (W.2.2 b k7) z7, _, rfl, by omega, by omega, rfl, ?_, zrs1_b ht hy, he⟩
        first
        | (have hcl := zB_clr z7 hy (W.2.2 b k7 1).toNat (by omega)
           rw [Int.toNat_of_nonneg (by omega)] at hcl
           have o3 := zB_or _ hcl.2 _ o2.2
           rw [t1, hcl.1, o2.1, o3.1, zrs1, if_pos (by omega)])
        | (have o3 := zB_or _ hy _ o2.2
           rw [(zB_self _ hy).1, o2.1, o3.1, zrs1, if_neg (by omega)])
set_option maxHeartbeats 4000000 in
set_option maxRecDepth 100000 in
/-- M.reads -/
theorem s_72 {h : zM} {G : zG} (hp : zPm h 0 G) (hw : zWf G) {Q : zQ} (hq : ∀ h2, zF (fun r _ => Nat.beq r 86) h h2 → (∀ c : Nat, c < 8 → h2 86 (c : Int) = (zAG G c : Int)) → Q none h2) : zR 72 [.inr (.inr 81)] h Q := by
  have hn := hp.n
  have h8 := hw.1
  have hv := hp.v hw
  refine zx_met zk_72 (Or.inr ⟨_, _, rfl, rfl⟩) (Nat.le_of_ble_eq_true rfl) (fun _ => false) 1000 (fun m j L S h2 => (j = 2 ∧ S = [] ∧ ∃ (k7 : Nat) (q2 : Option zV), L = [some (.inr (.inr 81)), some (.inl (k7 : Int)), q2] ∧ k7 ≤ 8 ∧ m = 10000 + 8 - k7 ∧ zF (fun r _ => Nat.beq r 86) h h2 ∧ ∀ c : Nat, c < k7 → h2 86 (c : Int) = 0) ∨
    (j = 14 ∧ S = [] ∧ ∃ (r7 : Nat) (q2 : Option zV), L = [some (.inr (.inr 81)), some (.inl (r7 : Int)), q2] ∧ r7 ≤ 60 ∧ m = (60 - r7) * 100 + 50 ∧ zF (fun r _ => Nat.beq r 86) h h2 ∧ ∀ c : Nat, c < 8 → h2 86 (c : Int) = ((zit (fun _ x => zap (zGW G) (zGW G).1 x) r7 zx0) c : Int)) ∨
    (j = 24 ∧ S = [] ∧ ∃ (r7 k7 : Nat) (y7 : Nat → Nat) (i7 : Int), L = [some (.inr (.inr 81)), some (.inl (r7 : Int)), some (.inl i7)] ∧ r7 < 60 ∧ i7 = (k7 : Int) - 1 ∧ k7 ≤ G.1 ∧ m = (60 - r7) * 100 + k7 ∧ zF (fun r _ => Nat.beq r 86) h h2 ∧ (∀ c : Nat, c < 8 → h2 86 (c : Int) = (y7 c : Int)) ∧ zpre (zGW G) y7 ∧ zap (zGW G) (zGW G).1 (zit (fun _ x => zap (zGW G) (zGW G).1 x) r7 zx0) = zap (zGW G) k7 y7)) (fun hok hM => ?_) (fun hok hM => ?_)
  · exact ⟨_, Or.inl ⟨rfl, rfl, 0, _, rfl, by omega, rfl, zF.rf, fun c hc => by omega⟩⟩
  · rintro n i L S h2 hM2 (hI | hI | hI)
    · obtain ⟨rfl, rfl, k7, q2, rfl, hk, hm, hF, hz⟩ := hI
      constructor
      · intro c1
        refine And.intro (by first | (show 0 ≤ _ ∧ _ < (708 : Int); omega) | (show 0 ≤ _ ∧ _ < (8 : Int); omega)) ?_
        refine And.intro (by omega) ?_
        refine ⟨10000 + 8 - (k7 + 1), by omega, Or.inl ⟨rfl, rfl, k7 + 1, _, rfl, by omega, rfl, hF.st rfl, fun c hc => ?_⟩⟩
        by_cases e : c = k7
        · subst e; exact zst_eq _ _ _ _
        · rw [zst_ne (by omega)]; exact hz c (by omega)
      · intro c1
        first
        | (have k8 : k7 = 8 := by omega
           subst k8
           exact ⟨(60 - 0) * 100 + 50, by omega, Or.inr (Or.inl ⟨rfl, rfl, 0, _, rfl, by omega, rfl, hF, fun c hc => hz c hc⟩)⟩)
        | (have k0 : k7 = 0 := by omega
           subst k0
           refine ⟨(60 - (r7 + 1)) * 100 + 50, by omega, Or.inr (Or.inl ⟨rfl, rfl, r7 + 1, _, rfl, by omega, rfl, hF, fun c hc => ?_⟩)⟩
           show _ = ((zap (zGW G) (zGW G).1 (zit (fun _ x => zap (zGW G) (zGW G).1 x) r7 zx0) c : Nat) : Int)
           rw [he]
           exact hz c hc)
    · obtain ⟨rfl, rfl, r7, q2, rfl, hr, hm, hF, hz⟩ := hI
      have e175 : h2 82 175 = (G.1 : Int) := (hF _ _ rfl).trans hn.1
      constructor
      · intro c2
        refine And.intro (by first | (show 0 ≤ _ ∧ _ < (708 : Int); omega) | (show 0 ≤ _ ∧ _ < (8 : Int); omega)) ?_
        refine And.intro (by omega) ?_
        first
        | (refine ⟨(60 - r7) * 100 + G.1, by omega, Or.inr (Or.inr ⟨rfl, rfl, r7, G.1, _, _, rfl, by omega, by omega, by omega, rfl, hF, hz, zpre_n hw.w h8 r7, rfl⟩)⟩)
        | (refine ⟨(60 - r7) * 100 + k7, by omega, Or.inr (Or.inr ⟨rfl, rfl, r7, k7, zup y7 k7 (zaf (zGW G) y7 k7), (k7 : Int) + -1, rfl, by omega, by omega, by omega, rfl, hF.st rfl, fun c hc => ?_, hup, he⟩)⟩
           by_cases ec : c = k7
           · subst ec
             rw [zst_eq, zup, if_pos rfl]
           · rw [zst_ne (by omega), zup, if_neg ec]
             exact hz c hc)
      · intro c2
        have r6 : r7 = 60 := by omega
        subst r6
        exact hq _ hF hz
    · obtain ⟨rfl, rfl, r7, k7, y7, i7, rfl, hr, hi, hk, hm, hF, hz, hy, he⟩ := hI
      constructor
      · intro c3
        refine And.intro (by omega) ?_
        first
        | (have k8 : k7 = 8 := by omega
           subst k8
           exact ⟨(60 - 0) * 100 + 50, by omega, Or.inr (Or.inl ⟨rfl, rfl, 0, _, rfl, by omega, rfl, hF, fun c hc => hz c hc⟩)⟩)
        | (have k0 : k7 = 0 := by omega
           subst k0
           refine ⟨(60 - (r7 + 1)) * 100 + 50, by omega, Or.inr (Or.inl ⟨rfl, rfl, r7 + 1, _, rfl, by omega, rfl, hF, fun c hc => ?_⟩)⟩
           show _ = ((zap (zGW G) (zGW G).1 (zit (fun _ x => zap (zGW G) (zGW G).1 x) r7 zx0) c : Nat) : Int)
           rw [he]
           exact hz c hc)
      · intro c3
        obtain ⟨k7, rfl⟩ : ∃ k2, k7 = k2 + 1 := ⟨k7 - 1, by omega⟩
        obtain rfl : i7 = (k7 : Int) := by omega
        have hkn : k7 < (zGW G).1 := by show k7 < G.1; omega
        have hup := (zup_g hw.w h8 hy hkn).1
        refine s_71 (hv.fr (h2 := h2) (fun _ => hF _ _ rfl)) hw.w hkn hy.1 hz ?_
        refine And.intro (by first | (show 0 ≤ _ ∧ _ < (708 : Int); omega) | (show 0 ≤ _ ∧ _ < (8 : Int); omega)) ?_
        refine And.intro (by omega) ?_
        first
        | (refine ⟨(60 - r7) * 100 + G.1, by omega, Or.inr (Or.inr ⟨rfl, rfl, r7, G.1, _, _, rfl, by omega, by omega, by omega, rfl, hF, hz, zpre_n hw.w h8 r7, rfl⟩)⟩)
        | (refine ⟨(60 - r7) * 100 + k7, by omega, Or.inr (Or.inr ⟨rfl, rfl, r7, k7, zup y7 k7 (zaf (zGW G) y7 k7), (k7 : Int) + -1, rfl, by omega, by omega, by omega, rfl, hF.st rfl, fun c hc => ?_, hup, he⟩)⟩
           by_cases ec : c = k7
           · subst ec
             rw [zst_eq, zup, if_pos rfl]
           · rw [zst_ne (by omega), zup, if_neg ec]
             exact hz c hc)
