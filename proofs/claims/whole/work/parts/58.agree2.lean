/-! The reference's agree() -/
/-- the run set aside -/
def zMo (h : zM) (a : zRr) : Prop := (∀ v, 0 ≤ v → v < 6 → h 102 v = a.1.1 v) ∧ h 102 6 = a.1.2.1 ∧ h 102 7 = (if a.2.2.2 = true then 1 else 0)
set_option maxHeartbeats 4000000 in
set_option maxRecDepth 100000 in
/-- M.isAlikeEnd -/
theorem s_118 {h : zM} {u : Nat} (hu : u < 64) (hd : h 81 12 = (u : Int)) {a b : zRr} (ho : zMo h a) (hr : zMd h b) {Q : zQ} (h1 : zag u a b → Q (some (.inl 1)) h) (h0 : ¬ zag u a b → Q (some (.inl 0)) h) : zR 118 [.inr (.inr 81)] h Q := by
  obtain ⟨o1, o2, o3⟩ := ho
  have b5 := hr.2.2
  have b1 := hr.1.1
  have hab : h 102 7 = h 81 35 ↔ a.2.2.2 = b.2.2.2 := by
    rw [o3, b5]
    cases a.2.2.2 <;> cases b.2.2.2 <;> simp
  have b01 : h 81 35 = 0 ∨ h 81 35 = 1 := by
    rw [b5]
    split <;> omega
  refine zx_met zk_118 (Or.inr ⟨_, _, rfl, rfl⟩) (Nat.le_of_ble_eq_true rfl) (fun _ => false) 1000 (fun m j L S h2 => j = 24 ∧ S = [] ∧ h2 = h ∧ ∃ (k7 : Nat) (e7 : Int), L = [some (.inr (.inr 81)), some (.inl e7), some (.inl (k7 : Int))] ∧ k7 ≤ 6 ∧ m = 6 - k7 ∧ (e7 = 1 ∧ a.1.2.1 = b.1.2.1 ∧ a.2.2.2 = b.2.2.2 ∧ (∀ v, 0 ≤ v → v < (k7 : Int) → Nat.testBit u v.toNat = true → a.1.1 v = b.1.1 v) ∨ e7 = 0 ∧ ¬ zag u a b)) (fun hok hM => ?_) (fun hok hM => ?_)
  · refine And.intro (by first | (show 0 ≤ _ ∧ _ < (6 : Int); omega) | (show 0 ≤ _ ∧ _ < (8 : Int); omega)) ?_
    constructor
    · intro c1
      refine And.intro (by first | (show 0 ≤ _ ∧ _ < (6 : Int); omega) | (show 0 ≤ _ ∧ _ < (8 : Int); omega)) ?_
      constructor
      · intro c2
        constructor
        · intro c3
          refine ⟨6, rfl, rfl, rfl, 0, _, rfl, by omega, rfl, ?_⟩
          first
          | (left; exact ⟨rfl, by omega, hab.mp (by omega), fun v h0 h1 => by omega⟩)
          | (right
             refine ⟨rfl, fun q => ?_⟩
             have q1 := q.1
             have q2 := hab.mpr q.2.1
             omega)
        · intro c3
          refine ⟨6, rfl, rfl, rfl, 0, _, rfl, by omega, rfl, ?_⟩
          first
          | (left; exact ⟨rfl, by omega, hab.mp (by omega), fun v h0 h1 => by omega⟩)
          | (right
             refine ⟨rfl, fun q => ?_⟩
             have q1 := q.1
             have q2 := hab.mpr q.2.1
             omega)
      · intro c2
        constructor
        · intro c4
          refine ⟨6, rfl, rfl, rfl, 0, _, rfl, by omega, rfl, ?_⟩
          first
          | (left; exact ⟨rfl, by omega, hab.mp (by omega), fun v h0 h1 => by omega⟩)
          | (right
             refine ⟨rfl, fun q => ?_⟩
             have q1 := q.1
             have q2 := hab.mpr q.2.1
             omega)
        · intro c4
          refine ⟨6, rfl, rfl, rfl, 0, _, rfl, by omega, rfl, ?_⟩
          first
          | (left; exact ⟨rfl, by omega, hab.mp (by omega), fun v h0 h1 => by omega⟩)
          | (right
             refine ⟨rfl, fun q => ?_⟩
             have q1 := q.1
             have q2 := hab.mpr q.2.1
             omega)
    · intro c1
      refine ⟨6, rfl, rfl, rfl, 0, _, rfl, by omega, rfl, ?_⟩
      first
      | (left; exact ⟨rfl, by omega, hab.mp (by omega), fun v h0 h1 => by omega⟩)
      | (right
         refine ⟨rfl, fun q => ?_⟩
         have q1 := q.1
         have q2 := hab.mpr q.2.1
         omega)
  · rintro m j L S h2 hM2 ⟨rfl, rfl, rfl, k7, e7, rfl, hk, hm, he⟩
    have he01 : e7 = 1 ∨ e7 = 0 := he.imp And.left And.left
    constructor
    · intro c5
      constructor
      · intro c6
        refine And.intro (by omega) ?_
        first
        | (have he2 := he.resolve_left (fun q => by have := q.1; omega)
           exact ⟨6 - (k7 + 1), by omega, rfl, rfl, rfl, k7 + 1, _, rfl, by omega, rfl, Or.inr ⟨rfl, he2.2⟩⟩)
        | (refine ⟨6 - (k7 + 1), by omega, rfl, rfl, rfl, k7 + 1, _, rfl, by omega, rfl, ?_⟩
           first
           | (left
              refine ⟨rfl, he2.2.1, he2.2.2.1, fun v h0 h1 ht => ?_⟩
              by_cases e : v = (k7 : Int)
              · subst e
                rw [Int.toNat_natCast] at ht
                first
                | (rw [hz.mp (by assumption)] at ht; cases ht)
                | omega
              · exact he2.2.2.2 v h0 (by omega) ht)
           | (right
              refine ⟨rfl, fun q => ?_⟩
              have ht : Nat.testBit u k7 = true := by
                cases q : Nat.testBit u k7
                · exact absurd (hz.mpr q) (by assumption)
                · rfl
              have := q.2.2 (k7 : Int) (by omega) (by omega) (by rw [Int.toNat_natCast]; exact ht)
              omega))
      · intro c6
        have hz := zB_bit u hu k7 (by omega)
        rw [← hd] at hz
        have ea := o1 (k7 : Int) (by omega) (by omega)
        have eb := hr.1.2.2.2 (k7 : Int) (by omega) (by omega)
        have he2 := he.resolve_right (fun q => by have := q.1; omega)
        constructor
        · intro c7
          refine And.intro (by omega) ?_
          first
          | (have he2 := he.resolve_left (fun q => by have := q.1; omega)
             exact ⟨6 - (k7 + 1), by omega, rfl, rfl, rfl, k7 + 1, _, rfl, by omega, rfl, Or.inr ⟨rfl, he2.2⟩⟩)
          | (refine ⟨6 - (k7 + 1), by omega, rfl, rfl, rfl, k7 + 1, _, rfl, by omega, rfl, ?_⟩
             first
             | (left
                refine ⟨rfl, he2.2.1, he2.2.2.1, fun v h0 h1 ht => ?_⟩
                by_cases e : v = (k7 : Int)
                · subst e
                  rw [Int.toNat_natCast] at ht
                  first
                  | (rw [hz.mp (by assumption)] at ht; cases ht)
                  | omega
                · exact he2.2.2.2 v h0 (by omega) ht)
             | (right
                refine ⟨rfl, fun q => ?_⟩
                have ht : Nat.testBit u k7 = true := by
                  cases q : Nat.testBit u k7
                  · exact absurd (hz.mpr q) (by assumption)
                  · rfl
                have := q.2.2 (k7 : Int) (by omega) (by omega) (by rw [Int.toNat_natCast]; exact ht)
                omega))
        · intro c7
          refine And.intro (by first | (show 0 ≤ _ ∧ _ < (6 : Int); omega) | (show 0 ≤ _ ∧ _ < (8 : Int); omega)) ?_
          refine And.intro (by first | (show 0 ≤ _ ∧ _ < (6 : Int); omega) | (show 0 ≤ _ ∧ _ < (8 : Int); omega)) ?_
          constructor
          · intro c8
            refine And.intro (by omega) ?_
            first
            | (have he2 := he.resolve_left (fun q => by have := q.1; omega)
               exact ⟨6 - (k7 + 1), by omega, rfl, rfl, rfl, k7 + 1, _, rfl, by omega, rfl, Or.inr ⟨rfl, he2.2⟩⟩)
            | (refine ⟨6 - (k7 + 1), by omega, rfl, rfl, rfl, k7 + 1, _, rfl, by omega, rfl, ?_⟩
               first
               | (left
                  refine ⟨rfl, he2.2.1, he2.2.2.1, fun v h0 h1 ht => ?_⟩
                  by_cases e : v = (k7 : Int)
                  · subst e
                    rw [Int.toNat_natCast] at ht
                    first
                    | (rw [hz.mp (by assumption)] at ht; cases ht)
                    | omega
                  · exact he2.2.2.2 v h0 (by omega) ht)
               | (right
                  refine ⟨rfl, fun q => ?_⟩
                  have ht : Nat.testBit u k7 = true := by
                    cases q : Nat.testBit u k7
                    · exact absurd (hz.mpr q) (by assumption)
                    · rfl
                  have := q.2.2 (k7 : Int) (by omega) (by omega) (by rw [Int.toNat_natCast]; exact ht)
                  omega))
          · intro c8
            refine And.intro (by omega) ?_
            first
            | (have he2 := he.resolve_left (fun q => by have := q.1; omega)
               exact ⟨6 - (k7 + 1), by omega, rfl, rfl, rfl, k7 + 1, _, rfl, by omega, rfl, Or.inr ⟨rfl, he2.2⟩⟩)
            | (refine ⟨6 - (k7 + 1), by omega, rfl, rfl, rfl, k7 + 1, _, rfl, by omega, rfl, ?_⟩
               first
               | (left
                  refine ⟨rfl, he2.2.1, he2.2.2.1, fun v h0 h1 ht => ?_⟩
                  by_cases e : v = (k7 : Int)
                  · subst e
                    rw [Int.toNat_natCast] at ht
                    first
                    | (rw [hz.mp (by assumption)] at ht; cases ht)
                    | omega
                  · exact he2.2.2.2 v h0 (by omega) ht)
               | (right
                  refine ⟨rfl, fun q => ?_⟩
                  have ht : Nat.testBit u k7 = true := by
                    cases q : Nat.testBit u k7
                    · exact absurd (hz.mpr q) (by assumption)
                    · rfl
                  have := q.2.2 (k7 : Int) (by omega) (by omega) (by rw [Int.toNat_natCast]; exact ht)
                  omega))
    · intro c5
      refine And.intro (by first | exact Or.inl rfl | exact Or.inr rfl | omega) ?_
      have k6 : k7 = 6 := by omega
      subst k6
      rcases he with ⟨q1, q2, q3, q4⟩ | ⟨q1, q2⟩
      · subst q1; exact h1 ⟨q2, q3, q4⟩
      · subst q1; exact h0 q2
/-- what a round of agree() may change in the reference -/
def zMw : Nat → Int → Bool := fun r k => zMf r k || Nat.beq r 101 || Nat.beq r 102
def zMa : Nat → Int → Bool := fun r k => zMg r k || zMw r k
theorem zMa_g {h h2 : zM} (hF : zF zMg h h2) : zF zMa h h2 := hF.mono (fun r j hf => (Bool.or_eq_false_iff.mp hf).1)
theorem zMw_f {h h2 : zM} (hF : zF zMf h h2) : zF zMw h h2 := hF.mono (fun r j hf => (Bool.or_eq_false_iff.mp (Bool.or_eq_false_iff.mp hf).1).1)
theorem zMa_w {h h2 : zM} (hF : zF zMw h h2) : zF zMa h h2 := hF.mono (fun r j hf => (Bool.or_eq_false_iff.mp hf).2)
theorem zMx.W {h h2 : zM} {G : zG} (hm : zMx h G) (hF : zF zMw h h2) : zMx h2 G := by
  have hn : ∀ (r : Nat) (k : Int), r ≠ 99 → r ≠ 100 → r ≠ 101 → r ≠ 102 → r ≠ 81 → zMw r k = false := by
    intro r k h1 h2 h3 h4 h5
    unfold zMw zMf
    rw [zbeq_ne h1, zbeq_ne h3, zbeq_ne h4, zbeq_ne h5]
    rfl
  refine ⟨(hF _ _ rfl).trans hm.1, hm.2.fr (fun k hk => ?_) (fun r k hr => hF _ _ (hn r k (by omega) (by omega) (by omega) (by omega) (by omega)))⟩
  rcases hk with rfl | rfl | rfl <;> exact hF _ _ rfl
theorem zPm.W {h h2 : zM} {G : zG} {o : Int} (hp : zPm h o G) (hF : zF zMw h h2) : zPm h2 o G := hp.fr (fun _ => hF _ _ rfl)
theorem zMd.st {h : zM} {r : zRr} (hr : zMd h r) (k v : Int) : zMd (zx_st h 102 k v) r := by
  obtain ⟨⟨a1, a2, a3, a4⟩, b1, b2⟩ := hr
  exact ⟨⟨a1, a2, a3, a4⟩, b1, b2⟩
set_option maxHeartbeats 4000000 in
set_option maxRecDepth 100000 in
/-- M.agree -/
theorem s_119 {h : zM} {G : zG} (hp : zPm h 0 G) (hw : zWf G) (hm : zMp h G) {s n w : Int} {Q : zQ} (hq : ∀ h2, zF zMa h h2 → zMp h2 G → Q (some (.inl (zaA G s n w))) h2) : zR 119 [.inr (.inr 81), .inl s, .inl n, .inl w] h Q := by
  refine zx_met zk_119 (Or.inr ⟨_, _, rfl, rfl⟩) (Nat.le_of_ble_eq_true rfl) (fun x => Nat.beq x 60) 1000 (fun m j L S h2 => (j = 31 ∧ S = [] ∧ ∃ (t7 : Nat) (q9 : Option zV), L = [some (.inr (.inr 81)), some (.inl s), some (.inl n), some (.inl w), some (.inl (zsn s (6 * t7))), some (.inl (zas G 0 s t7)), some (.inl (zas G 1 s t7)), some (.inl (zas G 2 s t7)), some (.inl (t7 : Int)), q9] ∧ (t7 : Int) ≤ n ∧ n ≤ 50 ∧ 0 ≤ w ∧ w ≤ 2 ∧ 0 < (zPW G).1 ∧ 1 ≤ n ∧ m = (50 - t7) * 100 + 80 ∧ zF zMa h h2 ∧ zMx h2 G ∧ zPm h2 0 G) ∨
    (j = 36 ∧ S = [] ∧ ∃ (t7 v7 : Nat), L = [some (.inr (.inr 81)), some (.inl s), some (.inl n), some (.inl w), some (.inl (zsn (zsn s (6 * t7)) v7)), some (.inl (zas G 0 s t7)), some (.inl (zas G 1 s t7)), some (.inl (zas G 2 s t7)), some (.inl (t7 : Int)), some (.inl (v7 : Int))] ∧ (t7 : Int) < n ∧ n ≤ 50 ∧ 0 ≤ w ∧ w ≤ 2 ∧ 0 < (zPW G).1 ∧ 1 ≤ n ∧ v7 ≤ 6 ∧ m = (50 - t7) * 100 + 70 - v7 ∧ zF zMa h h2 ∧ zMx h2 G ∧ zPm h2 0 G ∧ ∀ v, 0 ≤ v → v < (v7 : Int) → h2 101 v = zdf (zsn s (6 * t7)) v) ∨
    (j = 60 ∧ S = [] ∧ ∃ (t7 : Nat) (q9 : Option zV), L = [some (.inr (.inr 81)), some (.inl s), some (.inl n), some (.inl w), some (.inl (zsn s (6 * (t7 + 1)))), some (.inl (zas G 0 s t7)), some (.inl (zas G 1 s t7)), some (.inl (zas G 2 s t7)), some (.inl (t7 : Int)), q9] ∧ (t7 : Int) < n ∧ n ≤ 50 ∧ 0 ≤ w ∧ w ≤ 2 ∧ 0 < (zPW G).1 ∧ 1 ≤ n ∧ m = (50 - t7) * 100 + 50 ∧ zF zMa h h2 ∧ zMx h2 G ∧ zPm h2 0 G ∧ (∀ v, 0 ≤ v → v < 6 → h2 101 v = zdf (zsn s (6 * t7)) v) ∧ zMd h2 (zro G (zdf (zsn s (6 * t7))))) ∨
    (j = 76 ∧ S = [] ∧ ∃ (t7 v7 : Nat), L = [some (.inr (.inr 81)), some (.inl s), some (.inl n), some (.inl w), some (.inl (zsn s (6 * (t7 + 1)))), some (.inl (zas G 0 s t7)), some (.inl (zas G 1 s (t7 + 1))), some (.inl (zas G 2 s t7 + ((zro G (zdf (zsn s (6 * t7)))).1.2.2.2 : Int))), some (.inl (t7 : Int)), some (.inl (v7 : Int))] ∧ (t7 : Int) < n ∧ n ≤ 50 ∧ 0 ≤ w ∧ w ≤ 2 ∧ 0 < (zPW G).1 ∧ 1 ≤ n ∧ v7 ≤ 6 ∧ m = (50 - t7) * 100 + 40 - v7 ∧ zF zMa h h2 ∧ zMx h2 G ∧ zPm h2 0 G ∧ (∀ v, 0 ≤ v → v < 6 → h2 101 v = zdf (zsn s (6 * t7)) v) ∧ zMd h2 (zro G (zdf (zsn s (6 * t7)))) ∧ ∀ v, 0 ≤ v → v < (v7 : Int) → h2 102 v = (zro G (zdf (zsn s (6 * t7)))).1.1 v)) (fun hok hM => ?_) (fun hok hM => ?_)
  · refine s_50 (fun a1 => ?_) (fun a1 => ?_)
    · refine And.intro (fun c => absurd c (by decide)) (fun _ => ?_)
      refine s_50 (fun a2 => ?_) (fun a2 => ?_)
      · refine And.intro (fun c => absurd c (by decide)) (fun _ => ?_)
        refine s_81p hp hw hm (fun h1 hF1 hx => ?_)
        have f1 := hx.2
        have n40 := (zPW_w hw).1
        have e15 := f1.2.2.2.1.1
        have hp1 : zPm h1 0 G := hp.fr (fun _ => hF1 _ _ rfl)
        have hn1 := hp1.n
        constructor
        · intro c1
          unfold zaA at hq
          first
          | (rw [if_neg (by omega)] at hq; exact hq _ zF.rf hm)
          | (rw [if_pos (by omega), if_pos (by omega)] at hq; exact hq _ (zMa_g (zMg_n hF1)) hx.p)
          | (rw [if_pos (by omega), if_neg (by omega)] at hq
             have ht2 : n.toNat = t7 := by omega
             rw [ht2] at hq
             rcases (show w = 0 ∨ w = 1 ∨ w = 2 by omega) with rfl | rfl | rfl <;> first | (exfalso; omega) | exact hq _ hF hx.p)
        · intro c1
          exact ⟨_, Or.inl ⟨rfl, rfl, 0, _, rfl, by omega, by omega, by omega, by omega, by omega, by omega, rfl, zMa_g (zMg_n hF1), hx, hp1⟩⟩
      · refine And.intro (fun _ => ?_) (fun c => absurd (by decide) c)
        unfold zaA at hq
        first
        | (rw [if_neg (by omega)] at hq; exact hq _ zF.rf hm)
        | (rw [if_pos (by omega), if_pos (by omega)] at hq; exact hq _ (zMa_g (zMg_n hF1)) hx.p)
        | (rw [if_pos (by omega), if_neg (by omega)] at hq
           have ht2 : n.toNat = t7 := by omega
           rw [ht2] at hq
           rcases (show w = 0 ∨ w = 1 ∨ w = 2 by omega) with rfl | rfl | rfl <;> first | (exfalso; omega) | exact hq _ hF hx.p)
    · refine And.intro (fun _ => ?_) (fun c => absurd (by decide) c)
      unfold zaA at hq
      first
      | (rw [if_neg (by omega)] at hq; exact hq _ zF.rf hm)
      | (rw [if_pos (by omega), if_pos (by omega)] at hq; exact hq _ (zMa_g (zMg_n hF1)) hx.p)
      | (rw [if_pos (by omega), if_neg (by omega)] at hq
         have ht2 : n.toNat = t7 := by omega
         rw [ht2] at hq
         rcases (show w = 0 ∨ w = 1 ∨ w = 2 by omega) with rfl | rfl | rfl <;> first | (exfalso; omega) | exact hq _ hF hx.p)
  · rintro n0 i0 L S h2 hM2 (hI | hI | hI | hI)
    · obtain ⟨rfl, rfl, t7, q9, rfl, ht, hn5, hw0, hw2, hn0, hn1, hm0, hF, hx, hp2⟩ := hI
      constructor
      · intro c2
        first
        | (exact ⟨(50 - t7) * 100 + 70 - 0, by omega, Or.inr (Or.inl ⟨rfl, rfl, t7, 0, rfl, by omega, hn5, hw0, hw2, hn0, hn1, by omega, rfl, hF, hx, hp2, fun v h0 h1 => by omega⟩)⟩)
        | (have hG : zF zMw h2 (zx_st h2 101 (v7 : Int) (zdr (zsn (zsn s (6 * t7)) (v7 + 1)))) := zF.rf.st rfl
           exact ⟨(50 - t7) * 100 + 70 - (v7 + 1), by omega, Or.inr (Or.inl ⟨rfl, rfl, t7, v7 + 1, rfl, ht, hn5, hw0, hw2, hn0, hn1, by omega, rfl, hF.tr (zMa_w hG), hx.W hG, hp2.W hG, zfill hv (by unfold zdf; rw [Int.toNat_natCast]; rfl)⟩)⟩)
      · intro c2
        constructor
        · intro c3
          unfold zaA at hq
          first
          | (rw [if_neg (by omega)] at hq; exact hq _ zF.rf hm)
          | (rw [if_pos (by omega), if_pos (by omega)] at hq; exact hq _ (zMa_g (zMg_n hF1)) hx.p)
          | (rw [if_pos (by omega), if_neg (by omega)] at hq
             have ht2 : n.toNat = t7 := by omega
             rw [ht2] at hq
             rcases (show w = 0 ∨ w = 1 ∨ w = 2 by omega) with rfl | rfl | rfl <;> first | (exfalso; omega) | exact hq _ hF hx.p)
        · intro c3
          constructor
          · intro c4
            unfold zaA at hq
            first
            | (rw [if_neg (by omega)] at hq; exact hq _ zF.rf hm)
            | (rw [if_pos (by omega), if_pos (by omega)] at hq; exact hq _ (zMa_g (zMg_n hF1)) hx.p)
            | (rw [if_pos (by omega), if_neg (by omega)] at hq
               have ht2 : n.toNat = t7 := by omega
               rw [ht2] at hq
               rcases (show w = 0 ∨ w = 1 ∨ w = 2 by omega) with rfl | rfl | rfl <;> first | (exfalso; omega) | exact hq _ hF hx.p)
          · intro c4
            unfold zaA at hq
            first
            | (rw [if_neg (by omega)] at hq; exact hq _ zF.rf hm)
            | (rw [if_pos (by omega), if_pos (by omega)] at hq; exact hq _ (zMa_g (zMg_n hF1)) hx.p)
            | (rw [if_pos (by omega), if_neg (by omega)] at hq
               have ht2 : n.toNat = t7 := by omega
               rw [ht2] at hq
               rcases (show w = 0 ∨ w = 1 ∨ w = 2 by omega) with rfl | rfl | rfl <;> first | (exfalso; omega) | exact hq _ hF hx.p)
    · obtain ⟨rfl, rfl, t7, v7, rfl, ht, hn5, hw0, hw2, hn0, hn1, hv7, hm0, hF, hx, hp2, hv⟩ := hI
      have hand := zand_b (zx_shr (zsd (zsn (zsn s (6 * t7)) v7)) 16)
      constructor
      · intro c5
        refine And.intro (by show 0 ≤ zx_and (zx_shr (zsd (zsn (zsn s (6 * t7)) v7)) 16) 32767 ∧ (0 : Int) < 12; omega) ?_
        refine And.intro (by first | (show 0 ≤ _ ∧ _ < (6 : Int); omega) | (show 0 ≤ _ ∧ _ < (8 : Int); omega)) ?_
        refine And.intro (by omega) ?_
        first
        | (exact ⟨(50 - t7) * 100 + 70 - 0, by omega, Or.inr (Or.inl ⟨rfl, rfl, t7, 0, rfl, by omega, hn5, hw0, hw2, hn0, hn1, by omega, rfl, hF, hx, hp2, fun v h0 h1 => by omega⟩)⟩)
        | (have hG : zF zMw h2 (zx_st h2 101 (v7 : Int) (zdr (zsn (zsn s (6 * t7)) (v7 + 1)))) := zF.rf.st rfl
           exact ⟨(50 - t7) * 100 + 70 - (v7 + 1), by omega, Or.inr (Or.inl ⟨rfl, rfl, t7, v7 + 1, rfl, ht, hn5, hw0, hw2, hn0, hn1, by omega, rfl, hF.tr (zMa_w hG), hx.W hG, hp2.W hG, zfill hv (by unfold zdf; rw [Int.toNat_natCast]; rfl)⟩)⟩)
      · intro c5
        have v6 : v7 = 6 := by omega
        subst v6
        refine s_111o hp2 hw hv (zdf_b _) (fun h3 hG3 hr3 => ?_)
        have hG := zMw_f hG3
        rw [zsn_a]
        exact ⟨(50 - t7) * 100 + 50, by omega, Or.inr (Or.inr (Or.inl ⟨rfl, rfl, t7, _, rfl, ht, hn5, hw0, hw2, hn0, hn1, rfl, hF.tr (zMa_w hG), hx.W hG, hp2.W hG, fun v h0 h6 => (hG3 _ _ rfl).trans (hv v h0 h6), hr3⟩))⟩
    · obtain ⟨rfl, rfl, t7, q9, rfl, ht, hn5, hw0, hw2, hn0, hn1, hm0, hF, hx, hp2, hv, hr⟩ := hI
      have hbs := zas_b hw 1 s t7
      have hbm := zas_b hw 2 s t7
      have hb := zro_b hw (zdf_b (zsn s (6 * t7)))
      have e34 := hr.1.2.2.1
      constructor
      · intro c6
        refine And.intro (by omega) ?_
        refine And.intro (by omega) ?_
        first
        | (refine ⟨(50 - t7) * 100 + 40 - 0, by omega, Or.inr (Or.inr (Or.inr ⟨rfl, rfl, t7, 0, ?_, ht, hn5, hw0, hw2, hn0, hn1, by omega, rfl, hF, hx, hp2, hv, hr, fun v h0 h1 => by omega⟩))⟩
           have e1 : zas G 1 s (t7 + 1) = zas G 1 s t7 + zcg G (zdf (zsn s (6 * t7))) 1 := rfl
           have e2 : zcg G (zdf (zsn s (6 * t7))) 1 = if (zro G (zdf (zsn s (6 * t7)))).2.2.2 = true then 1 else 0 := by
             unfold zcg zcp
             rw [if_pos rfl]
           rw [e1, e2, ← e34]
           first
           | (rw [if_pos (zMd_sp hr (by assumption))]; rfl)
           | (rw [if_neg (by rw [zMd_ns hr (by assumption)]; decide)]; rfl))
        | (have hG : zF zMw h2 (zx_st h2 102 (v7 : Int) (h2 99 (v7 : Int))) := zF.rf.st rfl
           exact ⟨(50 - t7) * 100 + 40 - (v7 + 1), by omega, Or.inr (Or.inr (Or.inr ⟨rfl, rfl, t7, v7 + 1, rfl, ht, hn5, hw0, hw2, hn0, hn1, by omega, rfl, hF.tr (zMa_w hG), hx.W hG, hp2.W hG, hv, hr.st _ _, zfill h102 (e99 _ (by omega) (by omega))⟩))⟩)
      · intro c6
        refine And.intro (by omega) ?_
        refine And.intro (by omega) ?_
        first
        | (refine ⟨(50 - t7) * 100 + 40 - 0, by omega, Or.inr (Or.inr (Or.inr ⟨rfl, rfl, t7, 0, ?_, ht, hn5, hw0, hw2, hn0, hn1, by omega, rfl, hF, hx, hp2, hv, hr, fun v h0 h1 => by omega⟩))⟩
           have e1 : zas G 1 s (t7 + 1) = zas G 1 s t7 + zcg G (zdf (zsn s (6 * t7))) 1 := rfl
           have e2 : zcg G (zdf (zsn s (6 * t7))) 1 = if (zro G (zdf (zsn s (6 * t7)))).2.2.2 = true then 1 else 0 := by
             unfold zcg zcp
             rw [if_pos rfl]
           rw [e1, e2, ← e34]
           first
           | (rw [if_pos (zMd_sp hr (by assumption))]; rfl)
           | (rw [if_neg (by rw [zMd_ns hr (by assumption)]; decide)]; rfl))
        | (have hG : zF zMw h2 (zx_st h2 102 (v7 : Int) (h2 99 (v7 : Int))) := zF.rf.st rfl
           exact ⟨(50 - t7) * 100 + 40 - (v7 + 1), by omega, Or.inr (Or.inr (Or.inr ⟨rfl, rfl, t7, v7 + 1, rfl, ht, hn5, hw0, hw2, hn0, hn1, by omega, rfl, hF.tr (zMa_w hG), hx.W hG, hp2.W hG, hv, hr.st _ _, zfill h102 (e99 _ (by omega) (by omega))⟩))⟩)
    · obtain ⟨rfl, rfl, t7, v7, rfl, ht, hn5, hw0, hw2, hn0, hn1, hv7, hm0, hF, hx, hp2, hv, hr, h102⟩ := hI
      have hba := zas_b hw 0 s t7
      have hbm := zas_b hw 2 s t7
      have hb := zro_b hw (zdf_b (zsn s (6 * t7)))
      have e99 := hr.1.2.2.2
      constructor
      · intro c7
        refine And.intro (by first | (show 0 ≤ _ ∧ _ < (6 : Int); omega) | (show 0 ≤ _ ∧ _ < (8 : Int); omega)) ?_
        refine And.intro (by first | (show 0 ≤ _ ∧ _ < (6 : Int); omega) | (show 0 ≤ _ ∧ _ < (8 : Int); omega)) ?_
        refine And.intro (by omega) ?_
        first
        | (refine ⟨(50 - t7) * 100 + 40 - 0, by omega, Or.inr (Or.inr (Or.inr ⟨rfl, rfl, t7, 0, ?_, ht, hn5, hw0, hw2, hn0, hn1, by omega, rfl, hF, hx, hp2, hv, hr, fun v h0 h1 => by omega⟩))⟩
           have e1 : zas G 1 s (t7 + 1) = zas G 1 s t7 + zcg G (zdf (zsn s (6 * t7))) 1 := rfl
           have e2 : zcg G (zdf (zsn s (6 * t7))) 1 = if (zro G (zdf (zsn s (6 * t7)))).2.2.2 = true then 1 else 0 := by
             unfold zcg zcp
             rw [if_pos rfl]
           rw [e1, e2, ← e34]
           first
           | (rw [if_pos (zMd_sp hr (by assumption))]; rfl)
           | (rw [if_neg (by rw [zMd_ns hr (by assumption)]; decide)]; rfl))
        | (have hG : zF zMw h2 (zx_st h2 102 (v7 : Int) (h2 99 (v7 : Int))) := zF.rf.st rfl
           exact ⟨(50 - t7) * 100 + 40 - (v7 + 1), by omega, Or.inr (Or.inr (Or.inr ⟨rfl, rfl, t7, v7 + 1, rfl, ht, hn5, hw0, hw2, hn0, hn1, by omega, rfl, hF.tr (zMa_w hG), hx.W hG, hp2.W hG, hv, hr.st _ _, zfill h102 (e99 _ (by omega) (by omega))⟩))⟩)
      · intro c7
        refine And.intro (by first | (show 0 ≤ _ ∧ _ < (6 : Int); omega) | (show 0 ≤ _ ∧ _ < (8 : Int); omega)) ?_
        constructor
        · intro c8
          have c8b : (if h2 81 35 = 0 then (0 : Int) else 1) = if (zro G (zdf (zsn s (6 * t7)))).2.2.2 = true then 1 else 0 := by
            rw [hr.2.2]
            split <;> rfl
          have c8c := c8
          simp [zx_st] at c8c
          refine And.intro (by first | (show 0 ≤ _ ∧ _ < (6 : Int); omega) | (show 0 ≤ _ ∧ _ < (8 : Int); omega)) ?_
          have v6 : v7 = 6 := by omega
          subst v6
          refine s_112l (h := zx_st (zx_st h2 102 6 (h2 81 31)) 102 7 _) (hp2.W ((zF.rf.st rfl).st rfl)) hw (hx.W ((zF.rf.st rfl).st rfl)).2 hn0 hv (zdf_b _) (fun h3 hG3 hr3 => ?_)
          have hG : zF zMw h2 h3 := ((zF.rf.st rfl).st rfl).tr (zMw_f hG3)
          have e34 := hr3.1.2.2.1
          have ho3 : zMo h3 (zro G (zdf (zsn s (6 * t7)))) := by
            refine ⟨fun v h0 h6 => (hG3 _ _ rfl).trans ?_, (hG3 _ _ rfl).trans ?_, (hG3 _ _ rfl).trans ?_⟩
            · rw [zst_ne (by omega), zst_ne (by omega)]; exact h102 v h0 h6
            · rw [zst_ne (by decide), zst_eq]; exact hr.1.1
            · rw [zst_eq]
              first
              | (rw [if_pos (zMd_sp hr (by assumption))])
              | (rw [if_neg (by rw [zMd_ns hr (by assumption)]; decide)])
          refine And.intro (by omega) ?_
          refine s_118 (zUG_b hw) (hx.W hG).2.1 ho3 hr3 (fun z1 => ?_) (fun z1 => ?_)
          · refine And.intro (fun c => absurd c (by decide)) (fun _ => ?_)
            refine And.intro (by omega) ?_
            refine And.intro (by omega) ?_
            refine ⟨(50 - (t7 + 1)) * 100 + 80, by omega, Or.inl ⟨rfl, rfl, t7 + 1, some (.inl ((6 : Nat) : Int)), ?_, by omega, hn5, hw0, hw2, hn0, hn1, rfl, hF.tr (zMa_w hG), hx.W hG, hp2.W hG⟩⟩
            have e0 : zas G 0 s (t7 + 1) = zas G 0 s t7 + zcg G (zdf (zsn s (6 * t7))) 0 := rfl
            have e2 : zas G 2 s (t7 + 1) = zas G 2 s t7 + zcg G (zdf (zsn s (6 * t7))) 2 := rfl
            have e3 : zcg G (zdf (zsn s (6 * t7))) 2 = ((zro G (zdf (zsn s (6 * t7)))).1.2.2.2 : Int) - ((zrl G (zdf (zsn s (6 * t7)))).1.2.2.2 : Int) := by
              unfold zcg zcp
              rw [if_neg (by omega), if_pos rfl]
            have e4 : zas G 2 s t7 + (((zro G (zdf (zsn s (6 * t7)))).1.2.2.2 : Int) - ((zrl G (zdf (zsn s (6 * t7)))).1.2.2.2 : Int)) = zas G 2 s t7 + ((zro G (zdf (zsn s (6 * t7)))).1.2.2.2 : Int) - h3 81 34 := by omega
            rw [e0, e2, e3, e4]
            first
            | (rw [show zcg G (zdf (zsn s (6 * t7))) 0 = 1 from zcp_t (by omega) (by omega) z1]; rfl)
            | (rw [show zcg G (zdf (zsn s (6 * t7))) 0 = 0 from zcp_f (by omega) (by omega) z1]; rfl)
          · refine And.intro (fun _ => ?_) (fun c => absurd (by decide) c)
            refine And.intro (by omega) ?_
            refine And.intro (by omega) ?_
            refine ⟨(50 - (t7 + 1)) * 100 + 80, by omega, Or.inl ⟨rfl, rfl, t7 + 1, some (.inl ((6 : Nat) : Int)), ?_, by omega, hn5, hw0, hw2, hn0, hn1, rfl, hF.tr (zMa_w hG), hx.W hG, hp2.W hG⟩⟩
            have e0 : zas G 0 s (t7 + 1) = zas G 0 s t7 + zcg G (zdf (zsn s (6 * t7))) 0 := rfl
            have e2 : zas G 2 s (t7 + 1) = zas G 2 s t7 + zcg G (zdf (zsn s (6 * t7))) 2 := rfl
            have e3 : zcg G (zdf (zsn s (6 * t7))) 2 = ((zro G (zdf (zsn s (6 * t7)))).1.2.2.2 : Int) - ((zrl G (zdf (zsn s (6 * t7)))).1.2.2.2 : Int) := by
              unfold zcg zcp
              rw [if_neg (by omega), if_pos rfl]
            have e4 : zas G 2 s t7 + (((zro G (zdf (zsn s (6 * t7)))).1.2.2.2 : Int) - ((zrl G (zdf (zsn s (6 * t7)))).1.2.2.2 : Int)) = zas G 2 s t7 + ((zro G (zdf (zsn s (6 * t7)))).1.2.2.2 : Int) - h3 81 34 := by omega
            rw [e0, e2, e3, e4]
            first
            | (rw [show zcg G (zdf (zsn s (6 * t7))) 0 = 1 from zcp_t (by omega) (by omega) z1]; rfl)
            | (rw [show zcg G (zdf (zsn s (6 * t7))) 0 = 0 from zcp_f (by omega) (by omega) z1]; rfl)
        · intro c8
          have c8b : (if h2 81 35 = 0 then (0 : Int) else 1) = if (zro G (zdf (zsn s (6 * t7)))).2.2.2 = true then 1 else 0 := by
            rw [hr.2.2]
            split <;> rfl
          have c8c := c8
          simp [zx_st] at c8c
          refine And.intro (by first | (show 0 ≤ _ ∧ _ < (6 : Int); omega) | (show 0 ≤ _ ∧ _ < (8 : Int); omega)) ?_
          have v6 : v7 = 6 := by omega
          subst v6
          refine s_112l (h := zx_st (zx_st h2 102 6 (h2 81 31)) 102 7 _) (hp2.W ((zF.rf.st rfl).st rfl)) hw (hx.W ((zF.rf.st rfl).st rfl)).2 hn0 hv (zdf_b _) (fun h3 hG3 hr3 => ?_)
          have hG : zF zMw h2 h3 := ((zF.rf.st rfl).st rfl).tr (zMw_f hG3)
          have e34 := hr3.1.2.2.1
          have ho3 : zMo h3 (zro G (zdf (zsn s (6 * t7)))) := by
            refine ⟨fun v h0 h6 => (hG3 _ _ rfl).trans ?_, (hG3 _ _ rfl).trans ?_, (hG3 _ _ rfl).trans ?_⟩
            · rw [zst_ne (by omega), zst_ne (by omega)]; exact h102 v h0 h6
            · rw [zst_ne (by decide), zst_eq]; exact hr.1.1
            · rw [zst_eq]
              first
              | (rw [if_pos (zMd_sp hr (by assumption))])
              | (rw [if_neg (by rw [zMd_ns hr (by assumption)]; decide)])
          refine And.intro (by omega) ?_
          refine s_118 (zUG_b hw) (hx.W hG).2.1 ho3 hr3 (fun z1 => ?_) (fun z1 => ?_)
          · refine And.intro (fun c => absurd c (by decide)) (fun _ => ?_)
            refine And.intro (by omega) ?_
            refine And.intro (by omega) ?_
            refine ⟨(50 - (t7 + 1)) * 100 + 80, by omega, Or.inl ⟨rfl, rfl, t7 + 1, some (.inl ((6 : Nat) : Int)), ?_, by omega, hn5, hw0, hw2, hn0, hn1, rfl, hF.tr (zMa_w hG), hx.W hG, hp2.W hG⟩⟩
            have e0 : zas G 0 s (t7 + 1) = zas G 0 s t7 + zcg G (zdf (zsn s (6 * t7))) 0 := rfl
            have e2 : zas G 2 s (t7 + 1) = zas G 2 s t7 + zcg G (zdf (zsn s (6 * t7))) 2 := rfl
            have e3 : zcg G (zdf (zsn s (6 * t7))) 2 = ((zro G (zdf (zsn s (6 * t7)))).1.2.2.2 : Int) - ((zrl G (zdf (zsn s (6 * t7)))).1.2.2.2 : Int) := by
              unfold zcg zcp
              rw [if_neg (by omega), if_pos rfl]
            have e4 : zas G 2 s t7 + (((zro G (zdf (zsn s (6 * t7)))).1.2.2.2 : Int) - ((zrl G (zdf (zsn s (6 * t7)))).1.2.2.2 : Int)) = zas G 2 s t7 + ((zro G (zdf (zsn s (6 * t7)))).1.2.2.2 : Int) - h3 81 34 := by omega
            rw [e0, e2, e3, e4]
            first
            | (rw [show zcg G (zdf (zsn s (6 * t7))) 0 = 1 from zcp_t (by omega) (by omega) z1]; rfl)
            | (rw [show zcg G (zdf (zsn s (6 * t7))) 0 = 0 from zcp_f (by omega) (by omega) z1]; rfl)
          · refine And.intro (fun _ => ?_) (fun c => absurd (by decide) c)
            refine And.intro (by omega) ?_
            refine And.intro (by omega) ?_
            refine ⟨(50 - (t7 + 1)) * 100 + 80, by omega, Or.inl ⟨rfl, rfl, t7 + 1, some (.inl ((6 : Nat) : Int)), ?_, by omega, hn5, hw0, hw2, hn0, hn1, rfl, hF.tr (zMa_w hG), hx.W hG, hp2.W hG⟩⟩
            have e0 : zas G 0 s (t7 + 1) = zas G 0 s t7 + zcg G (zdf (zsn s (6 * t7))) 0 := rfl
            have e2 : zas G 2 s (t7 + 1) = zas G 2 s t7 + zcg G (zdf (zsn s (6 * t7))) 2 := rfl
            have e3 : zcg G (zdf (zsn s (6 * t7))) 2 = ((zro G (zdf (zsn s (6 * t7)))).1.2.2.2 : Int) - ((zrl G (zdf (zsn s (6 * t7)))).1.2.2.2 : Int) := by
              unfold zcg zcp
              rw [if_neg (by omega), if_pos rfl]
            have e4 : zas G 2 s t7 + (((zro G (zdf (zsn s (6 * t7)))).1.2.2.2 : Int) - ((zrl G (zdf (zsn s (6 * t7)))).1.2.2.2 : Int)) = zas G 2 s t7 + ((zro G (zdf (zsn s (6 * t7)))).1.2.2.2 : Int) - h3 81 34 := by omega
            rw [e0, e2, e3, e4]
            first
            | (rw [show zcg G (zdf (zsn s (6 * t7))) 0 = 1 from zcp_t (by omega) (by omega) z1]; rfl)
            | (rw [show zcg G (zdf (zsn s (6 * t7))) 0 = 0 from zcp_f (by omega) (by omega) z1]; rfl)
