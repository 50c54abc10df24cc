/-! CONTRACTS: the class's texts -/
theorem zbeq_ne {a b : Nat} (h : a ≠ b) : Nat.beq a b = false := by
  cases e : Nat.beq a b
  · rfl
  · exact absurd (Nat.eq_of_beq_eq_true e) h
theorem zLf_w {b : Nat} (hb : zLb b) {w : Nat} {k : Int} (hw : w < 8) : zLf b (36 + w) k = false := by
  have h1 : Nat.beq (36 + w) b = false := zbeq_ne (by rcases hb with rfl | rfl <;> omega)
  have h2 : Nat.beq (36 + w) (b + 1) = false := zbeq_ne (by rcases hb with rfl | rfl <;> omega)
  unfold zLf
  rw [h1, h2]
  rfl
theorem zVw.L {b : Nat} (hb : zLb b) {h h2 : zM} {W : zW} (hv : zVw h 36 W) (hF : zF (zLf b) h h2) : zVw h2 36 W := hv.fr (fun _ _ hw => hF _ _ (zLf_w hb hw))
theorem zSp.bd {h : zM} {x : Int} {t : Nat → Int} (hx : zSp h 36 x t) : 0 ≤ x ∧ x < 960 := by
  have a := hx.1
  have b : h 36 8 ≤ 960 := hx.2.1.2.2
  omega
set_option maxHeartbeats 4000000 in
set_option maxRecDepth 100000 in
/-- Letters.addEnding -/
theorem s_148 {b : Nat} (hb : zLb b) {s : List Int} {h : zM} (hs : zLt h b s) {W : zW} (hv : zVw h 36 W) (hw : zWw W) {k : Nat} (hk : k < W.1) {Q : zQ} (hl : s.length + 13 ≤ 512) (hq : ∀ h2, zF (zLf b) h h2 → zLt h2 b (s ++ zent (W.2.1 k)) → Q none h2) : zR 148 [.inr (.inr b), .inr (.inr 36), .inl (k : Int)] h Q := by
  have o3 := zdg_l (W.2.1 k 3)
  have o4 := zdg_l (W.2.1 k 4)
  have hn := hw.1
  have he := (hw.2 k hk).2.1
  unfold zWE at he
  have hF : zF (zLf b) h h := zF.rf
  rcases hb with rfl | rfl
  all_goals
    refine zx_met0 zk_148 (Or.inr ⟨_, _, rfl, rfl⟩) (Nat.le_of_ble_eq_true rfl) 1000 (fun hok hM => ?_)
    refine s_197t (Or.inr (Or.inr (Or.inr (Or.inr rfl)))) hv hk 2 (by omega) (by omega) ?_
    constructor
    · intro c1
      refine s_141e (by first | exact Or.inl rfl | exact Or.inr rfl) hs (i := 7) (l := [115, 116, 111, 112]) (by omega) (by decide +kernel) (by (try simp only [List.length_append, List.length_cons, List.length_nil]); omega) (fun _ hG hs => ?_)
      replace hF := hF.tr hG
      replace hv := hv.L (by first | exact Or.inl rfl | exact Or.inr rfl) hG
      refine s_140 (by first | exact Or.inl rfl | exact Or.inr rfl) hs (by (try simp only [List.length_append, List.length_cons, List.length_nil]); omega) (by omega) (fun _ hG hs => ?_)
      replace hF := hF.tr hG
      replace hv := hv.L (by first | exact Or.inl rfl | exact Or.inr rfl) hG
      refine hq _ hF ?_
      first
      | (rw [zent, if_pos (by omega)]; simpa using hs)
      | (rw [zent, if_neg (by omega), if_pos (by omega)]; simpa using hs)
      | (rw [zent, if_neg (by omega), if_neg (by omega)]; simpa using hs)
    · intro c1
      constructor
      · intro c2
        refine s_141e (by first | exact Or.inl rfl | exact Or.inr rfl) hs (i := 11) (l := [103, 111, 116, 111, 32]) (by omega) (by decide +kernel) (by (try simp only [List.length_append, List.length_cons, List.length_nil]); omega) (fun _ hG hs => ?_)
        replace hF := hF.tr hG
        replace hv := hv.L (by first | exact Or.inl rfl | exact Or.inr rfl) hG
        refine s_197t (Or.inr (Or.inr (Or.inr (Or.inr rfl)))) hv hk 3 (by omega) (by omega) ?_
        refine s_144 (by first | exact Or.inl rfl | exact Or.inr rfl) hs (by (try simp only [List.length_append, List.length_cons, List.length_nil]); omega) (by omega) (fun _ hG hs => ?_)
        replace hF := hF.tr hG
        replace hv := hv.L (by first | exact Or.inl rfl | exact Or.inr rfl) hG
        refine s_140 (by first | exact Or.inl rfl | exact Or.inr rfl) hs (by (try simp only [List.length_append, List.length_cons, List.length_nil]); omega) (by omega) (fun _ hG hs => ?_)
        replace hF := hF.tr hG
        replace hv := hv.L (by first | exact Or.inl rfl | exact Or.inr rfl) hG
        refine hq _ hF ?_
        first
        | (rw [zent, if_pos (by omega)]; simpa using hs)
        | (rw [zent, if_neg (by omega), if_pos (by omega)]; simpa using hs)
        | (rw [zent, if_neg (by omega), if_neg (by omega)]; simpa using hs)
      · intro c2
        refine s_141e (by first | exact Or.inl rfl | exact Or.inr rfl) hs (i := 12) (l := [105, 102, 32]) (by omega) (by decide +kernel) (by (try simp only [List.length_append, List.length_cons, List.length_nil]); omega) (fun _ hG hs => ?_)
        replace hF := hF.tr hG
        replace hv := hv.L (by first | exact Or.inl rfl | exact Or.inr rfl) hG
        refine s_197t (Or.inr (Or.inr (Or.inr (Or.inr rfl)))) hv hk 5 (by omega) (by omega) ?_
        refine And.intro (by omega) ?_
        refine s_140 (by first | exact Or.inl rfl | exact Or.inr rfl) hs (by (try simp only [List.length_append, List.length_cons, List.length_nil]); omega) (by omega) (fun _ hG hs => ?_)
        replace hF := hF.tr hG
        replace hv := hv.L (by first | exact Or.inl rfl | exact Or.inr rfl) hG
        refine s_140 (by first | exact Or.inl rfl | exact Or.inr rfl) hs (by (try simp only [List.length_append, List.length_cons, List.length_nil]); omega) (by omega) (fun _ hG hs => ?_)
        replace hF := hF.tr hG
        replace hv := hv.L (by first | exact Or.inl rfl | exact Or.inr rfl) hG
        refine s_197t (Or.inr (Or.inr (Or.inr (Or.inr rfl)))) hv hk 3 (by omega) (by omega) ?_
        refine s_144 (by first | exact Or.inl rfl | exact Or.inr rfl) hs (by (try simp only [List.length_append, List.length_cons, List.length_nil]); omega) (by omega) (fun _ hG hs => ?_)
        replace hF := hF.tr hG
        replace hv := hv.L (by first | exact Or.inl rfl | exact Or.inr rfl) hG
        refine s_140 (by first | exact Or.inl rfl | exact Or.inr rfl) hs (by (try simp only [List.length_append, List.length_cons, List.length_nil]); omega) (by omega) (fun _ hG hs => ?_)
        replace hF := hF.tr hG
        replace hv := hv.L (by first | exact Or.inl rfl | exact Or.inr rfl) hG
        refine s_197t (Or.inr (Or.inr (Or.inr (Or.inr rfl)))) hv hk 4 (by omega) (by omega) ?_
        refine s_144 (by first | exact Or.inl rfl | exact Or.inr rfl) hs (by (try simp only [List.length_append, List.length_cons, List.length_nil]); omega) (by omega) (fun _ hG hs => ?_)
        replace hF := hF.tr hG
        replace hv := hv.L (by first | exact Or.inl rfl | exact Or.inr rfl) hG
        refine s_140 (by first | exact Or.inl rfl | exact Or.inr rfl) hs (by (try simp only [List.length_append, List.length_cons, List.length_nil]); omega) (by omega) (fun _ hG hs => ?_)
        replace hF := hF.tr hG
        replace hv := hv.L (by first | exact Or.inl rfl | exact Or.inr rfl) hG
        refine hq _ hF ?_
        first
        | (rw [zent, if_pos (by omega)]; simpa using hs)
        | (rw [zent, if_neg (by omega), if_pos (by omega)]; simpa using hs)
        | (rw [zent, if_neg (by omega), if_neg (by omega)]; simpa using hs)
set_option maxHeartbeats 4000000 in
set_option maxRecDepth 100000 in
/-- Letters.writeStep -/
theorem s_146 {b : Nat} (hb : zLb b) {h : zM} {x : Int} {t : Nat → Int} (hx : zSp h 36 x t) (ht : zWS t) {Q : zQ} (hq : ∀ h2, zF (zLf b) h h2 → zLt h2 b (zstp t) → Q none h2) : zR 146 [.inr (.inr b), .inr (.inr 36), .inl x] h Q := by
  have hs0 : zLt (zx_st h b 1 0) b [] := ⟨zst_eq _ _ _ _, fun k hk => by simp at hk⟩
  have hF0 : zF (zLf b) h (zx_st h b 1 0) := zF.rf.st (zLf_b _)
  rcases hb with rfl | rfl
  all_goals
    refine zx_met0 zk_146 (Or.inr ⟨_, _, rfl, rfl⟩) (Nat.le_of_ble_eq_true rfl) 1000 (fun hok hM => ?_)
    refine s_147 (by first | exact Or.inl rfl | exact Or.inr rfl) hs0 (hx.fr (fun _ => hF0 _ _ rfl) (fun _ => hF0 _ _ rfl)) ht (by simp) (fun _ hG hs => ?_)
    exact hq _ (hF0.tr hG) hs
set_option maxHeartbeats 4000000 in
set_option maxRecDepth 100000 in
/-- Letters.writePoint -/
theorem s_145 {b : Nat} (hb : zLb b) {h : zM} {W : zW} (hv : zVw h 36 W) (hw : zWw W) {k : Nat} (hk : k < W.1) {Q : zQ} (hq : ∀ h2, zF (zLf b) h h2 → zLt h2 b (zshw W k) → Q none h2) : zR 145 [.inr (.inr b), .inr (.inr 36), .inl (k : Int)] h Q := by
  have hs0 : zLt (zx_st h b 1 0) b [] := ⟨zst_eq _ _ _ _, fun k hk => by simp at hk⟩
  have hF0 : zF (zLf b) h (zx_st h b 1 0) := zF.rf.st (zLf_b _)
  have hv0 := hv.L hb hF0
  have o1 := zdg_l (k : Int)
  have hn := hw.1
  have hc := (hw.2 k hk).1
  obtain ⟨c, hc1⟩ : ∃ c : Nat, (c : Int) = W.2.1 k 1 := ⟨(W.2.1 k 1).toNat, by omega⟩
  have hct : (W.2.1 k 1).toNat = c := by omega
  have hel := zent_l (W.2.1 k)
  obtain ⟨B, hB⟩ : ∃ B, B = b := ⟨_, rfl⟩
  rcases hb with rfl | rfl
  all_goals
    refine zx_met zk_145 (Or.inr ⟨_, _, rfl, rfl⟩) (Nat.le_of_ble_eq_true rfl) (fun _ => false) 1000 (fun m j L S h2 => j = 16 ∧ S = [] ∧ ∃ i : Nat, L = [some (.inr (.inr B)), some (.inr (.inr 36)), some (.inl (k : Int)), some (.inl (i : Int))] ∧ i ≤ c ∧ m = c - i ∧ zF (zLf B) h h2 ∧ zLt h2 B (112 :: (zdg (k : Int) ++ 58 :: ztx (W.2.2 k) i))) (fun hok hM => ?_) (fun hok hM => ?_)
    · refine s_196 (Or.inr (Or.inr (Or.inr (Or.inr rfl)))) (fun _ => ?_) (fun q => absurd ⟨by omega, by have := hv0.2.1; omega⟩ q)
      refine And.intro (fun c => absurd c (by decide)) (fun _ => ?_)
      refine s_144 (by first | exact Or.inl rfl | exact Or.inr rfl) hs0 (by (try simp only [List.length_append, List.length_cons, List.length_nil]); omega) (by omega) (fun _ hG hs => ?_)
      have hF := hF0.tr hG
      replace hv := hv.L (by first | exact Or.inl rfl | exact Or.inr rfl) hF
      refine s_140 (by first | exact Or.inl rfl | exact Or.inr rfl) hs (by (try simp only [List.length_append, List.length_cons, List.length_nil]); omega) (by omega) (fun _ hG hs => ?_)
      replace hF := hF.tr hG
      replace hv := hv.L (by first | exact Or.inl rfl | exact Or.inr rfl) hG
      subst hB
      exact ⟨c, rfl, rfl, 0, rfl, by omega, rfl, hF, by simpa [ztx] using hs⟩
    · subst hB
      rintro m j L S h2 hM2 ⟨rfl, rfl, i, rfl, hi, hm, hF, hs⟩
      replace hv := hv.L (by first | exact Or.inl rfl | exact Or.inr rfl) hF
      have htl := ztx_l (W.2.2 k) i
      have e1 : h2 38 (k : Int) = W.2.1 k 1 := (hv.2.2 k hk).1 1 (by omega) (by omega)
      refine And.intro (by show 0 ≤ _ ∧ _ < (40 : Int); omega) ?_
      constructor
      · intro c1
        refine s_140 (by first | exact Or.inl rfl | exact Or.inr rfl) hs (by (try simp only [List.length_append, List.length_cons, List.length_nil]); omega) (by omega) (fun h3 hG hs => ?_)
        replace hF := hF.tr hG
        replace hv := hv.L (by first | exact Or.inl rfl | exact Or.inr rfl) hG
        have hsp := (hv.2.2 k hk).2.2.2 i (by omega)
        have hsb : 0 ≤ h3 37 (k : Int) + (i : Int) ∧ h3 37 (k : Int) + (i : Int) < 960 := hsp.bd
        refine And.intro (by show 0 ≤ _ ∧ _ < (40 : Int); omega) ?_
        refine And.intro (by omega) ?_
        refine s_147 (by first | exact Or.inl rfl | exact Or.inr rfl) hs hsp ((hw.2 k hk).2.2 i (by omega)) (by (try simp only [List.length_append, List.length_cons, List.length_nil]); omega) (fun _ hG hs => ?_)
        replace hF := hF.tr hG
        replace hv := hv.L (by first | exact Or.inl rfl | exact Or.inr rfl) hG
        refine And.intro (by omega) ?_
        exact ⟨c - (i + 1), by omega, rfl, rfl, i + 1, rfl, by omega, rfl, hF, by simpa [ztx] using hs⟩
      · intro c1
        refine s_140 (by first | exact Or.inl rfl | exact Or.inr rfl) hs (by (try simp only [List.length_append, List.length_cons, List.length_nil]); omega) (by omega) (fun _ hG hs => ?_)
        replace hF := hF.tr hG
        replace hv := hv.L (by first | exact Or.inl rfl | exact Or.inr rfl) hG
        refine s_148 (by first | exact Or.inl rfl | exact Or.inr rfl) hs hv hw hk (by (try simp only [List.length_append, List.length_cons, List.length_nil]); omega) (fun _ hG hs => ?_)
        replace hF := hF.tr hG
        replace hv := hv.L (by first | exact Or.inl rfl | exact Or.inr rfl) hG
        have hic : i = c := by omega
        subst hic
        refine hq _ hF ?_
        rw [zshw, hct]
        simpa using hs
/-- q stands in s from i on -/
def zmt (s q : List Int) (i : Nat) : Prop := ∀ a, a < q.length → s.getD (i + a) 0 = q.getD a 0
set_option maxHeartbeats 4000000 in
set_option maxRecDepth 100000 in
/-- Letters.hasAt -/
theorem s_150 {s q : List Int} {h : zM} (hs : zLt h 60 s) (ht : zLt h 62 q) (hl : s.length ≤ 512) (hl2 : q.length ≤ 512) {f : Nat} (hf : f + q.length ≤ s.length) {Q : zQ} (h1 : zmt s q f → Q (some (.inl 1)) h) (h0 : ¬ zmt s q f → Q (some (.inl 0)) h) : zR 150 [.inr (.inr 60), .inr (.inr 62), .inl (f : Int)] h Q := by
  have e2 := ht.1
  refine zx_met zk_150 (Or.inr ⟨_, _, rfl, rfl⟩) (Nat.le_of_ble_eq_true rfl) (fun _ => false) 1000 (fun m j L S h2 => j = 2 ∧ S = [] ∧ h2 = h ∧ ∃ i : Nat, L = [some (.inr (.inr 60)), some (.inr (.inr 62)), some (.inl (f : Int)), some (.inl (i : Int))] ∧ i ≤ q.length ∧ m = q.length - i ∧ ∀ a, a < i → s.getD (f + a) 0 = q.getD a 0) (fun hok hM => ?_) (fun hok hM => ?_)
  · exact ⟨q.length, rfl, rfl, rfl, 0, rfl, by omega, rfl, fun a ha => by omega⟩
  · rintro m j L S h2 hM2 ⟨rfl, rfl, rfl, i, rfl, hi, hm, hp⟩
    constructor
    · intro c1
      refine And.intro (by omega) ?_
      refine s_139 (Or.inl rfl) hs hl (fun x hx hx2 => ?_) (fun q => absurd (by omega) q)
      obtain rfl : x = f + i := by omega
      refine s_139 (Or.inr rfl) ht hl2 (fun y hy hy2 => ?_) (fun q => absurd (by omega) q)
      obtain rfl : y = i := by omega
      constructor
      · intro c2
        refine And.intro (by omega) ?_
        refine ⟨q.length - (y + 1), by omega, rfl, rfl, rfl, y + 1, rfl, by omega, rfl, fun a ha => ?_⟩
        by_cases hay : a = y
        · subst hay
          assumption
        · exact hp a (by omega)
      · intro c2
        refine And.intro (by first | exact Or.inl rfl | exact Or.inr rfl | omega) ?_
        first
        | (refine h0 (fun q => ?_)
           exact absurd (q y (by omega)) (by assumption))
        | (refine h1 (fun a ha => hp a (by omega)))
    · intro c1
      refine And.intro (by first | exact Or.inl rfl | exact Or.inr rfl | omega) ?_
      first
      | (refine h0 (fun q => ?_)
         exact absurd (q y (by omega)) (by assumption))
      | (refine h1 (fun a ha => hp a (by omega)))
set_option maxHeartbeats 4000000 in
set_option maxRecDepth 100000 in
/-- Letters.find -/
theorem s_149 {s q : List Int} {h : zM} (hs : zLt h 60 s) (ht : zLt h 62 q) (hl : s.length ≤ 512) (hl2 : q.length ≤ 512) {f : Nat} {Q : zQ} (h1 : ∀ i : Nat, f ≤ i → i + q.length ≤ s.length → (∀ j, f ≤ j → j < i → ¬ zmt s q j) → zmt s q i → Q (some (.inl (i : Int))) h) (h0 : (∀ j, f ≤ j → j + q.length ≤ s.length → ¬ zmt s q j) → Q (some (.inl (-4))) h) : zR 149 [.inr (.inr 60), .inr (.inr 62), .inl (f : Int)] h Q := by
  have e1 := hs.1
  have e2 := ht.1
  refine zx_met zk_149 (Or.inr ⟨_, _, rfl, rfl⟩) (Nat.le_of_ble_eq_true rfl) (fun _ => false) 1000 (fun m j L S h2 => j = 2 ∧ S = [] ∧ h2 = h ∧ ∃ i : Nat, L = [some (.inr (.inr 60)), some (.inr (.inr 62)), some (.inl (f : Int)), some (.inl (i : Int))] ∧ f ≤ i ∧ m = s.length + 1 - i ∧ ∀ j, f ≤ j → j < i → ¬ zmt s q j) (fun hok hM => ?_) (fun hok hM => ?_)
  · exact ⟨s.length + 1 - f, rfl, rfl, rfl, f, rfl, by omega, rfl, fun a ha hb => by omega⟩
  · rintro m j L S h2 hM2 ⟨rfl, rfl, rfl, i, rfl, hi, hm, hp⟩
    refine And.intro (by omega) ?_
    constructor
    · intro c1
      first
      | exact h1 i hi (by omega) hp hz
      | exact h0 (fun j hj hk => hp j hj (by omega))
    · intro c1
      refine s_150 hs ht hl hl2 (f := i) (by omega) (fun hz => ?_) (fun hz => ?_)
      · refine And.intro (fun c => absurd c (by decide)) (fun _ => ?_)
        first
        | exact h1 i hi (by omega) hp hz
        | exact h0 (fun j hj hk => hp j hj (by omega))
      · refine And.intro (fun _ => ?_) (fun c => absurd (by decide) c)
        refine And.intro (by omega) ?_
        refine ⟨s.length + 1 - (i + 1), by omega, rfl, rfl, rfl, i + 1, rfl, by omega, rfl, fun a ha hb => ?_⟩
        by_cases hay : a = i
        · subst hay
          exact hz
        · exact hp a ha (by omega)
