/-! The class: where a point leads -/
theorem s_152m {h : zM} {G : zG} (he : zEc h G) (hw : zWf G) {P : zPS} {k : Nat} (hh : zHc h P k) (ho : zPo G P k) {s : zLs} (p5 : ∀ v, 0 ≤ v → v < 6 → h 58 v = s.1 v) {b : Nat} (hb : b < G.1) {x : Int} (hx : x = (b : Int)) {Q : zQ} (hq : ∀ h2 y, zF (zYf (P.1 : Int)) h h2 → zHc h2 (zm1 G P k s b).1 k → ((zm1 G P k s b).2.2 = false → y = ((zm1 G P k s b).2.1 : Int) ∧ h2 52 5 = h 52 5) → ((zm1 G P k s b).2.2 = true → h2 52 5 = 1) → Q (some (.inl y)) h2) : zR 152 [.inr (.inr 52), .inr (.inr 44), .inl x, .inl (k : Int)] h Q := by
  subst hx
  exact s_152 he hw hh ho hb (F := ztd G s.1 b) (fun v h0 h6 => by unfold ztd; rw [p5 v h0 h6]) hq
theorem zclose {h h2 : zM} (hF : zF zQf h h2) (k : Nat) (e o t y : Int) : zF zQf h (zx_st (zx_st (zx_st (zx_st h2 (36 + 3) (k : Int) e) (36 + 4) (k : Int) o) (36 + 5) (k : Int) t) (36 + 6) (k : Int) y) := (((hF.st rfl).st rfl).st rfl).st rfl
theorem zlead1 {h h2 : zM} {G : zG} {P : zPS} {k : Nat} (ho : zPo G P k) (hk : k < P.1) {s : zLs} {a : Int} (hp : zKp h k s a) (ha : 0 ≤ a) {b : Nat} {y : Int} {A : Nat → Int} {Q : zQ} (hF : zF (zYf (P.1 : Int)) h h2) (hh2 : zHc h2 (zm1 G P k s b).1 k) (hx0 : (zm1 G P k s b).2.2 = false → y = ((zm1 G P k s b).2.1 : Int) ∧ h2 52 5 = h 52 5) (hx1 : (zm1 G P k s b).2.2 = true → h2 52 5 = 1) (hm : P.1 ≤ (zm1 G P k s b).1.1) (hz : zpe G P k s A = (zput (zm1 G P k s b).1 k s 0 ((zm1 G P k s b).2.1 : Int) (-4) (-4), (zm1 G P k s b).2.2)) (hq : ∀ h2, zF zQf h h2 → h2 36 8 = h 36 8 → ((zpe G P k s A).2 = false → zHc h2 (zpe G P k s A).1 (k + 1) ∧ h2 52 5 = h 52 5) → ((zpe G P k s A).2 = true → h2 52 5 = 1) → Q none h2) : Q none (zx_st (zx_st (zx_st (zx_st h2 (36 + 3) (k : Int) 0) (36 + 4) (k : Int) y) (36 + 5) (k : Int) (-4)) (36 + 6) (k : Int) (-4)) := by
  have hp2 := hp.Y (n := (P.1 : Int)) (by omega) hF
  rw [hz] at hq
  refine hq _ (zclose (zQf_Y hF) _ _ _ _ _) (hF _ _ rfl) (fun q => ?_) (fun q => hx1 q)
  obtain ⟨y1, y2⟩ := hx0 q
  subst y1
  exact ⟨hh2.put (by omega) hp2 ha _ _ _ _, y2⟩
theorem zlead2 {h h2 h3 : zM} {G : zG} {P : zPS} {k : Nat} (ho : zPo G P k) (hk : k < P.1) {s : zLs} {a : Int} (hp : zKp h k s a) (ha : 0 ≤ a) {b c : Nat} {y z v : Int} {A : Nat → Int} {Q : zQ} (hF : zF (zYf (P.1 : Int)) h h2) (hx0 : (zm1 G P k s b).2.2 = false → y = ((zm1 G P k s b).2.1 : Int) ∧ h2 52 5 = h 52 5) (hx1 : (zm1 G P k s b).2.2 = true → h2 52 5 = 1) (hm : P.1 ≤ (zm1 G P k s b).1.1)
    (hF2 : zF (zYf ((zm1 G P k s b).1.1 : Int)) h2 h3) (hh3 : zHc h3 (zm1 G (zm1 G P k s b).1 k s c).1 k) (hx2 : (zm1 G (zm1 G P k s b).1 k s c).2.2 = false → z = ((zm1 G (zm1 G P k s b).1 k s c).2.1 : Int) ∧ h3 52 5 = h2 52 5) (hx3 : (zm1 G (zm1 G P k s b).1 k s c).2.2 = true → h3 52 5 = 1) (hm2 : (zm1 G P k s b).1.1 ≤ (zm1 G (zm1 G P k s b).1 k s c).1.1)
    (hz : zpe G P k s A = (zput (zm1 G (zm1 G P k s b).1 k s c).1 k s 1 ((zm1 G P k s b).2.1 : Int) ((zm1 G (zm1 G P k s b).1 k s c).2.1 : Int) v, (zm1 G P k s b).2.2 || (zm1 G (zm1 G P k s b).1 k s c).2.2)) (hq : ∀ h2, zF zQf h h2 → h2 36 8 = h 36 8 → ((zpe G P k s A).2 = false → zHc h2 (zpe G P k s A).1 (k + 1) ∧ h2 52 5 = h 52 5) → ((zpe G P k s A).2 = true → h2 52 5 = 1) → Q none h2) : Q none (zx_st (zx_st (zx_st (zx_st h3 (36 + 3) (k : Int) 1) (36 + 4) (k : Int) y) (36 + 5) (k : Int) z) (36 + 6) (k : Int) v) := by
  have hp2 := (hp.Y (n := (P.1 : Int)) (by omega) hF).Y (n := ((zm1 G P k s b).1.1 : Int)) (by omega) hF2
  rw [hz] at hq
  refine hq _ (zclose ((zQf_Y hF).tr (zQf_Y hF2)) _ _ _ _ _) ((hF2 36 8 rfl).trans (hF 36 8 rfl)) (fun q => ?_) (fun q => ?_)
  · have q := Bool.or_eq_false_iff.mp q
    obtain ⟨y1, y2⟩ := hx0 q.1
    obtain ⟨z1, z2⟩ := hx2 q.2
    subst y1
    subst z1
    exact ⟨hh3.put (by omega) hp2 ha _ _ _ _, z2.trans y2⟩
  · show h3 52 5 = 1
    cases e : (zm1 G (zm1 G P k s b).1 k s c).2.2
    · have q : ((zm1 G P k s b).2.2 || (zm1 G (zm1 G P k s b).1 k s c).2.2) = true := q
      rw [e, Bool.or_false] at q
      exact (hx2 e).2.trans (hx1 q)
    · exact hx3 e
set_option maxHeartbeats 4000000 in
set_option maxRecDepth 100000 in
/-- Points.leadOn -/
theorem s_158 {h : zM} {G : zG} (he : zEc h G) (hw : zWf G) {P : zPS} {k : Nat} (hh : zHc h P k) (ho : zPo G P k) (hk : k < P.1) {s : zLs} {a : Int} (hp : zKp h k s a) (ha : 0 ≤ a) (hs : zLo s 24) {Q : zQ} (hq : ∀ h2, zF zQf h h2 → h2 36 8 = h 36 8 → ((zpe G P k s (G.2.1 (P.2.1 k))).2 = false → zHc h2 (zpe G P k s (G.2.1 (P.2.1 k))).1 (k + 1) ∧ h2 52 5 = h 52 5) → ((zpe G P k s (G.2.1 (P.2.1 k))).2 = true → h2 52 5 = 1) → Q none h2) : zR 158 [.inr (.inr 52), .inr (.inr 44), .inl (k : Int)] h Q := by
  have hb := (ho.2.2.1 k hk).1
  have e55 := (hh.2.1 k hk).1
  have e127 := he.1.1
  generalize P.2.1 k = b at hb e55 hq
  have hE := (hw.2.2.1 b hb).2.2.2
  have hn8 := hw.1
  unfold zWE at hE
  have a2 : h 15 (h 55 (k : Int)) = G.2.1 b 2 := by rw [e55]; exact he.1.2.2.1 b 2 hb (by omega)
  have a3 : h 16 (h 55 (k : Int)) = G.2.1 b 3 := by rw [e55]; exact he.1.2.2.1 b 3 hb (by omega)
  have a4 : h 17 (h 55 (k : Int)) = G.2.1 b 4 := by rw [e55]; exact he.1.2.2.1 b 4 hb (by omega)
  have a5 : h 18 (h 55 (k : Int)) = G.2.1 b 5 := by rw [e55]; exact he.1.2.2.1 b 5 hb (by omega)
  have e36 : zWn 36 = 40 := rfl
  have h40 := ho.1
  have h7 := hh.1
  have hu := zUG_b hw
  have p5 := hp.2.2.2.2
  refine zx_met0 zk_158 (Or.inr ⟨_, _, rfl, rfl⟩) (Nat.le_of_ble_eq_true rfl) 1000 (fun hok hM => ?_)
  refine And.intro (by first | (show 0 ≤ _ ∧ _ < (40 : Int); omega) | (show 0 ≤ _ ∧ _ < (8 : Int); omega) | (show 0 ≤ _ ∧ _ < (6 : Int); omega)) ?_
  refine s_196 (by unfold zWb; omega) (fun _ => ?_) (fun q => absurd (by omega) q)
  refine And.intro (fun c => absurd c (by decide)) (fun _ => ?_)
  refine And.intro (by first | (show 0 ≤ _ ∧ _ < (40 : Int); omega) | (show 0 ≤ _ ∧ _ < (8 : Int); omega) | (show 0 ≤ _ ∧ _ < (6 : Int); omega)) ?_
  refine And.intro (by first | (show 0 ≤ _ ∧ _ < (40 : Int); omega) | (show 0 ≤ _ ∧ _ < (8 : Int); omega) | (show 0 ≤ _ ∧ _ < (6 : Int); omega)) ?_
  refine And.intro (by first | (show 0 ≤ _ ∧ _ < (40 : Int); omega) | (show 0 ≤ _ ∧ _ < (8 : Int); omega) | (show 0 ≤ _ ∧ _ < (6 : Int); omega)) ?_
  refine And.intro (by first | (show 0 ≤ _ ∧ _ < (40 : Int); omega) | (show 0 ≤ _ ∧ _ < (8 : Int); omega) | (show 0 ≤ _ ∧ _ < (6 : Int); omega)) ?_
  constructor
  · intro c1
    refine s_195e (by unfold zWb; omega) (q := (k : Int)) rfl (by omega) (by omega) ?_
    first
    | (have hz2 : zpe G P k s (G.2.1 b) = (zput P k s 2 (-4) (-4) (-4), false) := by
         unfold zpe
         rw [if_pos (by omega)]
       rw [hz2] at hq
       exact hq _ (zclose zF.rf _ _ _ _ _) rfl (fun _ => ⟨hh.put hk hp ha _ _ _ _, rfl⟩) (fun q => by cases q))
    | (exfalso; omega)
    | (refine zlead1 ho hk hp ha hF hh2 hx0 hx1 hm1 ?_ hq
       unfold zpe
       rw [if_neg (by omega), if_neg (fun q => by have := q.1; omega)]
       simp only [if_pos (show G.2.1 b 2 = 0 ∨ ¬ s.1 (G.2.1 b 5) = 0 from Or.inl (by omega))])
    | (have t5 : Nat.testBit (zUG G) (G.2.1 b 5).toNat = true := by
         cases e : Nat.testBit (zUG G) (G.2.1 b 5).toNat
         · exact absurd (hz.mpr e) b1
         · rfl
       refine zlead2 ho hk hp ha hF hx0 hx1 hm1 hF2 hh3 hx2 hx3 hm2 ?_ hq
       rw [a5]
       unfold zpe
       rw [if_neg (by omega), if_pos (And.intro (by omega) t5)])
    | (refine zlead1 ho hk hp ha hF hh2 hx0 hx1 hm1 ?_ hq
       unfold zpe
       rw [if_neg (by omega), if_neg (fun q => by have q2 := q.2; rw [hz.mp b1] at q2; cases q2)])
  · intro c1
    constructor
    · intro c2
      have hbt : (G.2.1 b 3).toNat < G.1 := by omega
      refine s_152m he hw hh ho p5 hbt (by omega) (fun h2 y hF hh2 hx0 hx1 => ?_)
      have hm := zm1_o ho hbt hs.1
      have h72 := hh2.1
      have h402 := hm.1.1
      have hm1 := hm.2.1
      refine s_195e (by unfold zWb; omega) (q := (k : Int)) rfl (by omega) (by omega) ?_
      first
      | (have hz2 : zpe G P k s (G.2.1 b) = (zput P k s 2 (-4) (-4) (-4), false) := by
           unfold zpe
           rw [if_pos (by omega)]
         rw [hz2] at hq
         exact hq _ (zclose zF.rf _ _ _ _ _) rfl (fun _ => ⟨hh.put hk hp ha _ _ _ _, rfl⟩) (fun q => by cases q))
      | (exfalso; omega)
      | (refine zlead1 ho hk hp ha hF hh2 hx0 hx1 hm1 ?_ hq
         unfold zpe
         rw [if_neg (by omega), if_neg (fun q => by have := q.1; omega)]
         simp only [if_pos (show G.2.1 b 2 = 0 ∨ ¬ s.1 (G.2.1 b 5) = 0 from Or.inl (by omega))])
      | (have t5 : Nat.testBit (zUG G) (G.2.1 b 5).toNat = true := by
           cases e : Nat.testBit (zUG G) (G.2.1 b 5).toNat
           · exact absurd (hz.mpr e) b1
           · rfl
         refine zlead2 ho hk hp ha hF hx0 hx1 hm1 hF2 hh3 hx2 hx3 hm2 ?_ hq
         rw [a5]
         unfold zpe
         rw [if_neg (by omega), if_pos (And.intro (by omega) t5)])
      | (refine zlead1 ho hk hp ha hF hh2 hx0 hx1 hm1 ?_ hq
         unfold zpe
         rw [if_neg (by omega), if_neg (fun q => by have q2 := q.2; rw [hz.mp b1] at q2; cases q2)])
    · intro c2
      refine s_38 (fun v1 => ?_) (fun v1 => ?_)
      · refine And.intro (fun c => absurd c (by decide)) (fun _ => ?_)
        have hz : zx_and (zx_shr (h 53 1) (h 18 (h 55 (k : Int)))) 1 = 0 ↔ Nat.testBit (zUG G) (G.2.1 b 5).toNat = false := by
          have hz := zB_bit _ hu (G.2.1 b 5).toNat (by omega)
          rw [Int.toNat_of_nonneg (by omega)] at hz
          rw [he.2.1, a5]
          exact hz
        refine s_43 (fun b1 => ?_) (fun b1 => ?_)
        · refine And.intro (fun c => absurd c (by decide)) (fun _ => ?_)
          have hbt : (G.2.1 b 3).toNat < G.1 := by omega
          refine s_152m he hw hh ho p5 hbt (by omega) (fun h2 y hF hh2 hx0 hx1 => ?_)
          have hm := zm1_o ho hbt hs.1
          have h72 := hh2.1
          have h402 := hm.1.1
          have hm1 := hm.2.1
          have hbt2 : (G.2.1 b 4).toNat < G.1 := by omega
          refine s_152m (he.Q (zQf_Y hF)) hw hh2 hm.1 (fun v h0 h6 => (hF _ _ rfl).trans (p5 v h0 h6)) hbt2 (by omega) (fun h3 z hF2 hh3 hx2 hx3 => ?_)
          have hn := zm1_o hm.1 hbt2 hs.1
          have h73 := hh3.1
          have h403 := hn.1.1
          have hm2 := hn.2.1
          refine s_195e (by unfold zWb; omega) (q := (k : Int)) rfl (by omega) (by omega) ?_
          first
          | (have hz2 : zpe G P k s (G.2.1 b) = (zput P k s 2 (-4) (-4) (-4), false) := by
               unfold zpe
               rw [if_pos (by omega)]
             rw [hz2] at hq
             exact hq _ (zclose zF.rf _ _ _ _ _) rfl (fun _ => ⟨hh.put hk hp ha _ _ _ _, rfl⟩) (fun q => by cases q))
          | (exfalso; omega)
          | (refine zlead1 ho hk hp ha hF hh2 hx0 hx1 hm1 ?_ hq
             unfold zpe
             rw [if_neg (by omega), if_neg (fun q => by have := q.1; omega)]
             simp only [if_pos (show G.2.1 b 2 = 0 ∨ ¬ s.1 (G.2.1 b 5) = 0 from Or.inl (by omega))])
          | (have t5 : Nat.testBit (zUG G) (G.2.1 b 5).toNat = true := by
               cases e : Nat.testBit (zUG G) (G.2.1 b 5).toNat
               · exact absurd (hz.mpr e) b1
               · rfl
             refine zlead2 ho hk hp ha hF hx0 hx1 hm1 hF2 hh3 hx2 hx3 hm2 ?_ hq
             rw [a5]
             unfold zpe
             rw [if_neg (by omega), if_pos (And.intro (by omega) t5)])
          | (refine zlead1 ho hk hp ha hF hh2 hx0 hx1 hm1 ?_ hq
             unfold zpe
             rw [if_neg (by omega), if_neg (fun q => by have q2 := q.2; rw [hz.mp b1] at q2; cases q2)])
        · refine And.intro (fun _ => ?_) (fun c => absurd (by decide) c)
          refine And.intro (by first | (show 0 ≤ _ ∧ _ < (40 : Int); omega) | (show 0 ≤ _ ∧ _ < (8 : Int); omega) | (show 0 ≤ _ ∧ _ < (6 : Int); omega)) ?_
          constructor
          · intro c3
            rw [a5, p5 _ (by omega) (by omega)] at c3
            have hbt : (if G.2.1 b 2 = 0 ∨ ¬ s.1 (G.2.1 b 5) = 0 then G.2.1 b 3 else G.2.1 b 4).toNat < G.1 := by split <;> omega
            refine s_152m he hw hh ho p5 hbt (by first | (rw [if_pos (by omega)]; omega) | (rw [if_neg (by omega)]; omega)) (fun h2 y hF hh2 hx0 hx1 => ?_)
            have hm := zm1_o ho hbt hs.1
            have h72 := hh2.1
            have h402 := hm.1.1
            have hm1 := hm.2.1
            refine s_195e (by unfold zWb; omega) (q := (k : Int)) rfl (by omega) (by omega) ?_
            first
            | (have hz2 : zpe G P k s (G.2.1 b) = (zput P k s 2 (-4) (-4) (-4), false) := by
                 unfold zpe
                 rw [if_pos (by omega)]
               rw [hz2] at hq
               exact hq _ (zclose zF.rf _ _ _ _ _) rfl (fun _ => ⟨hh.put hk hp ha _ _ _ _, rfl⟩) (fun q => by cases q))
            | (exfalso; omega)
            | (refine zlead1 ho hk hp ha hF hh2 hx0 hx1 hm1 ?_ hq
               unfold zpe
               rw [if_neg (by omega), if_neg (fun q => by have := q.1; omega)]
               simp only [if_pos (show G.2.1 b 2 = 0 ∨ ¬ s.1 (G.2.1 b 5) = 0 from Or.inl (by omega))])
            | (have t5 : Nat.testBit (zUG G) (G.2.1 b 5).toNat = true := by
                 cases e : Nat.testBit (zUG G) (G.2.1 b 5).toNat
                 · exact absurd (hz.mpr e) b1
                 · rfl
               refine zlead2 ho hk hp ha hF hx0 hx1 hm1 hF2 hh3 hx2 hx3 hm2 ?_ hq
               rw [a5]
               unfold zpe
               rw [if_neg (by omega), if_pos (And.intro (by omega) t5)])
            | (refine zlead1 ho hk hp ha hF hh2 hx0 hx1 hm1 ?_ hq
               unfold zpe
               rw [if_neg (by omega), if_neg (fun q => by have q2 := q.2; rw [hz.mp b1] at q2; cases q2)])
          · intro c3
            rw [a5, p5 _ (by omega) (by omega)] at c3
            have hbt : (if G.2.1 b 2 = 0 ∨ ¬ s.1 (G.2.1 b 5) = 0 then G.2.1 b 3 else G.2.1 b 4).toNat < G.1 := by split <;> omega
            refine s_152m he hw hh ho p5 hbt (by first | (rw [if_pos (by omega)]; omega) | (rw [if_neg (by omega)]; omega)) (fun h2 y hF hh2 hx0 hx1 => ?_)
            have hm := zm1_o ho hbt hs.1
            have h72 := hh2.1
            have h402 := hm.1.1
            have hm1 := hm.2.1
            refine s_195e (by unfold zWb; omega) (q := (k : Int)) rfl (by omega) (by omega) ?_
            first
            | (have hz2 : zpe G P k s (G.2.1 b) = (zput P k s 2 (-4) (-4) (-4), false) := by
                 unfold zpe
                 rw [if_pos (by omega)]
               rw [hz2] at hq
               exact hq _ (zclose zF.rf _ _ _ _ _) rfl (fun _ => ⟨hh.put hk hp ha _ _ _ _, rfl⟩) (fun q => by cases q))
            | (exfalso; omega)
            | (refine zlead1 ho hk hp ha hF hh2 hx0 hx1 hm1 ?_ hq
               unfold zpe
               rw [if_neg (by omega), if_neg (fun q => by have := q.1; omega)]
               simp only [if_pos (show G.2.1 b 2 = 0 ∨ ¬ s.1 (G.2.1 b 5) = 0 from Or.inl (by omega))])
            | (have t5 : Nat.testBit (zUG G) (G.2.1 b 5).toNat = true := by
                 cases e : Nat.testBit (zUG G) (G.2.1 b 5).toNat
                 · exact absurd (hz.mpr e) b1
                 · rfl
               refine zlead2 ho hk hp ha hF hx0 hx1 hm1 hF2 hh3 hx2 hx3 hm2 ?_ hq
               rw [a5]
               unfold zpe
               rw [if_neg (by omega), if_pos (And.intro (by omega) t5)])
            | (refine zlead1 ho hk hp ha hF hh2 hx0 hx1 hm1 ?_ hq
               unfold zpe
               rw [if_neg (by omega), if_neg (fun q => by have q2 := q.2; rw [hz.mp b1] at q2; cases q2)])
      · refine And.intro (fun _ => ?_) (fun c => absurd (by decide) c)
        have hbt : (G.2.1 b 3).toNat < G.1 := by omega
        refine s_152m he hw hh ho p5 hbt (by omega) (fun h2 y hF hh2 hx0 hx1 => ?_)
        have hm := zm1_o ho hbt hs.1
        have h72 := hh2.1
        have h402 := hm.1.1
        have hm1 := hm.2.1
        refine s_195e (by unfold zWb; omega) (q := (k : Int)) rfl (by omega) (by omega) ?_
        first
        | (have hz2 : zpe G P k s (G.2.1 b) = (zput P k s 2 (-4) (-4) (-4), false) := by
             unfold zpe
             rw [if_pos (by omega)]
           rw [hz2] at hq
           exact hq _ (zclose zF.rf _ _ _ _ _) rfl (fun _ => ⟨hh.put hk hp ha _ _ _ _, rfl⟩) (fun q => by cases q))
        | (exfalso; omega)
        | (refine zlead1 ho hk hp ha hF hh2 hx0 hx1 hm1 ?_ hq
           unfold zpe
           rw [if_neg (by omega), if_neg (fun q => by have := q.1; omega)]
           simp only [if_pos (show G.2.1 b 2 = 0 ∨ ¬ s.1 (G.2.1 b 5) = 0 from Or.inl (by omega))])
        | (have t5 : Nat.testBit (zUG G) (G.2.1 b 5).toNat = true := by
             cases e : Nat.testBit (zUG G) (G.2.1 b 5).toNat
             · exact absurd (hz.mpr e) b1
             · rfl
           refine zlead2 ho hk hp ha hF hx0 hx1 hm1 hF2 hh3 hx2 hx3 hm2 ?_ hq
           rw [a5]
           unfold zpe
           rw [if_neg (by omega), if_pos (And.intro (by omega) t5)])
        | (refine zlead1 ho hk hp ha hF hh2 hx0 hx1 hm1 ?_ hq
           unfold zpe
           rw [if_neg (by omega), if_neg (fun q => by have q2 := q.2; rw [hz.mp b1] at q2; cases q2)])
