/-! The class: a point is gone through; all are found -/
def zJg (k : Nat) (a : Int) : Nat → Int → Bool := fun r j => zJf k a r j || (Nat.beq r 37 && decide (j = (k : Int)))
theorem zJg_J {k : Nat} {a : Int} {h h2 : zM} (hF : zF (zJf k a) h h2) : zF (zJg k a) h h2 := hF.mono (fun r j hf => by
  unfold zJg at hf
  exact (Bool.or_eq_false_iff.mp hf).1)
theorem zJg_n {k : Nat} {a : Int} {r : Nat} {j : Int} (h : ¬ (36 ≤ r ∧ r ≤ 43) ∧ r ≠ 58) : zJg k a r j = false := by
  unfold zJg zJf
  rw [zbeq_ne (show r ≠ 58 by omega), zbeq_ne (show r ≠ 36 by omega), zbeq_ne (show r ≠ 38 by omega), zbeq_ne (show r ≠ 43 by omega), zbeq_ne (show r ≠ 37 by omega)]
  rfl
theorem zQf_J {k : Nat} {a : Int} {h h2 : zM} (hF : zF (zJg k a) h h2) : zF zQf h h2 := hF.mono (fun r j hf => by
  apply zJg_n
  unfold zQf at hf
  simp only [Bool.or_eq_false_iff, Bool.and_eq_false_iff] at hf
  obtain ⟨⟨h1, h2⟩, h3⟩ := hf
  refine ⟨fun q => ?_, fun q => ?_⟩
  · rcases h1 with h1 | h1
    · have := Nat.ble_eq.mpr q.1; rw [h1] at this; cases this
    · have := Nat.ble_eq.mpr q.2; rw [h1] at this; cases this
  · subst q
    rcases h2 with h2 | h2 <;> cases h2)
theorem zJg_k {k : Nat} {a j : Int} (hj : j ≠ (k : Int)) {r : Nat} (h1 : 36 < r) (h2 : r < 43) : zJg k a r j = false := by
  unfold zJg zJf
  rw [zbeq_ne (show r ≠ 58 by omega), zbeq_ne (show r ≠ 36 by omega), zbeq_ne (show r ≠ 43 by omega), decide_eq_false hj]
  simp
theorem zHc.J {h h2 : zM} {P : zPS} {k : Nat} (hh : zHc h P k) (hF : zF (zJg k (h 36 8)) h h2) (h8 : h 36 8 ≤ h2 36 8) : zHc h2 P k := by
  obtain ⟨a, b, c, d⟩ := hh
  have e7 : h2 36 7 = h 36 7 := hF _ _ rfl
  refine ⟨e7.trans a, fun j hj => ?_, by omega, fun j hj => ?_⟩
  · obtain ⟨b1, b2, b3⟩ := b j hj
    exact ⟨(hF _ _ rfl).trans b1, (hF _ _ rfl).trans b2, fun v h0 h6 => (hF _ _ rfl).trans (b3 v h0 h6)⟩
  · obtain ⟨d1, d2, d3, d4⟩ := d j hj
    have e37 : h2 37 (j : Int) = h 37 (j : Int) := hF _ _ (zJg_k (by omega) (by omega) (by omega))
    rw [e37]
    refine ⟨fun w h0 h6 => (hF _ _ (zJg_k (by omega) (by omega) (by omega))).trans (d1 w h0 h6), d2, by omega, fun i w hi hw => ?_⟩
    rw [hF 43 _ ?_]
    · exact d4 i w hi hw
    · unfold zJg zJf
      have q1 : decide (h 36 8 * 5 ≤ (h 37 (j : Int) + (i : Int)) * 5 + (w : Int)) = false := decide_eq_false (by omega)
      rw [q1]
      rfl
set_option maxHeartbeats 4000000 in
set_option maxRecDepth 100000 in
/-- Points.specialise -/
theorem s_155 {h : zM} {G : zG} (he : zEc h G) (hw : zWf G) {P : zPS} {k : Nat} (hh : zHc h P k) (ho : zPo G P k) (hk : k < P.1) (h8 : h 36 8 ≤ 24 * (k : Int)) {Q : zQ} (hq : ∀ h2, zF (zJg k (h 36 8)) h h2 → zKp h2 k (zps G P k) (h 36 8) → zLo (zps G P k) 24 → Q none h2) : zR 155 [.inr (.inr 52), .inr (.inr 12), .inl (k : Int)] h Q := by
  have h40 := ho.1
  obtain ⟨hb, hvb⟩ := ho.2.2.1 k hk
  obtain ⟨w1, w2, w3, w4⟩ := hw.2.2.1 _ hb
  have hn8 := hw.1
  have hn24 := hw.2.1
  have hu := zUG_b hw
  obtain ⟨hk1, hk2, hk3⟩ := hh.2.1 k hk
  have h7 := hh.1
  have h36 := hh.2.2.1
  have e36 : zWn 36 = 40 := rfl
  obtain ⟨c, hc⟩ : ∃ c : Nat, (c : Int) = G.2.1 (P.2.1 k) 1 := ⟨(G.2.1 (P.2.1 k) 1).toNat, by omega⟩
  obtain ⟨f, hf⟩ : ∃ f : Nat, (f : Int) = G.2.1 (P.2.1 k) 0 := ⟨(G.2.1 (P.2.1 k) 0).toNat, by omega⟩
  have hct : (G.2.1 (P.2.1 k) 1).toNat = c := by omega
  have hft : (G.2.1 (P.2.1 k) 0).toNat = f := by omega
  have hTi : ∀ i : Nat, i < c → zWS ((zGW G).2.2 (P.2.1 k) i) ∧ zKn (zUG G) ((zGW G).2.2 (P.2.1 k) i) := by
    intro i hi
    have hl : (G.2.1 (P.2.1 k) 0).toNat + i < G.2.2.1 := by omega
    exact ⟨hw.2.2.2.1 _ hl, zKn_G hw hl⟩
  have hs0 : zLo (P.2.2.1 k, 0, P.2.2.2.2.2 k) 0 := ⟨hvb, Nat.le_refl _, fun i hi => by have hi : i < 0 := hi; omega⟩
  refine zx_met zk_155 (Or.inr ⟨_, _, rfl, rfl⟩) (Nat.le_of_ble_eq_true rfl) (fun x => Nat.beq x 33) 1000 (fun m j L S h2 => (j = 2 ∧ S = [] ∧ ∃ (k7 : Nat) (q4 q5 : Option zV), L = [some (.inr (.inr 52)), some (.inr (.inr 12)), some (.inl (k : Int)), some (.inl (k7 : Int)), q4, q5] ∧ k7 ≤ 6 ∧ m = 1000 + 6 - k7 ∧ zF (fun r _ => Nat.beq r 58) h h2 ∧ ∀ v, 0 ≤ v → v < (k7 : Int) → h2 58 v = P.2.2.1 k v) ∨
    (j = 33 ∧ S = [] ∧ ∃ (x3 : Int) (q4 q5 : Option zV), L = [some (.inr (.inr 52)), some (.inr (.inr 12)), some (.inl (k : Int)), some (.inl x3), q4, q5] ∧ x3 = (P.2.1 k : Int) ∧ m = 500 ∧ zF (zJg k (h 36 8)) h h2 ∧ zKp h2 k (P.2.2.1 k, 0, P.2.2.2.2.2 k) (h 36 8)) ∨
    (j = 48 ∧ S = [] ∧ ∃ (i7 : Nat) (y7 x7 : Int), L = [some (.inr (.inr 52)), some (.inr (.inr 12)), some (.inl (k : Int)), some (.inl (P.2.1 k : Int)), some (.inl y7), some (.inl x7)] ∧ y7 = (f : Int) + (c : Int) ∧ x7 = (f : Int) + (i7 : Int) ∧ i7 ≤ c ∧ m = c - i7 ∧ zF (zJg k (h 36 8)) h h2 ∧ zKp h2 k (zlvs (zUG G) ((zGW G).2.2 (P.2.1 k)) i7 (P.2.2.1 k, 0, P.2.2.2.2.2 k)) (h 36 8))) (fun hok hM => ?_) (fun hok hM => ?_)
  · exact ⟨_, Or.inl ⟨rfl, rfl, 0, _, _, rfl, by omega, rfl, zF.rf, fun v h0 h1 => by omega⟩⟩
  · rintro n0 i0 L S h2 hM2 (hI | hI | hI)
    · obtain ⟨rfl, rfl, k7, q4, q5, rfl, hk7, hm, hF, hv⟩ := hI
      have e55 : h2 55 (k : Int) = (P.2.1 k : Int) := (hF _ _ rfl).trans hk1
      have e127 : h2 12 7 = (G.1 : Int) := (hF _ _ rfl).trans he.1.1
      have e367 : h2 36 7 = (P.1 : Int) := (hF _ _ rfl).trans h7
      have e368 : h2 36 8 = h 36 8 := hF _ _ rfl
      constructor
      · intro c1
        refine And.intro (by omega) ?_
        refine And.intro (by omega) ?_
        refine And.intro (by first | (show 0 ≤ _ ∧ _ < (40 : Int); omega) | (show 0 ≤ _ ∧ _ < (240 : Int); omega) | (show 0 ≤ _ ∧ _ < (6 : Int); omega) | (show 0 ≤ _ ∧ _ < (8 : Int); omega)) ?_
        refine And.intro (by first | (show 0 ≤ _ ∧ _ < (40 : Int); omega) | (show 0 ≤ _ ∧ _ < (240 : Int); omega) | (show 0 ≤ _ ∧ _ < (6 : Int); omega) | (show 0 ≤ _ ∧ _ < (8 : Int); omega)) ?_
        refine And.intro (by omega) ?_
        refine ⟨1000 + 6 - (k7 + 1), by omega, Or.inl ⟨rfl, rfl, k7 + 1, _, _, rfl, by omega, rfl, hF.st rfl, zfill hv ?_⟩⟩
        exact (hF _ _ rfl).trans (hk3 _ (by omega) (by omega))
      · intro c1
        refine And.intro (by first | (show 0 ≤ _ ∧ _ < (40 : Int); omega) | (show 0 ≤ _ ∧ _ < (240 : Int); omega) | (show 0 ≤ _ ∧ _ < (6 : Int); omega) | (show 0 ≤ _ ∧ _ < (8 : Int); omega)) ?_
        refine s_196 (by unfold zWb; omega) (fun _ => ?_) (fun q => absurd (by omega) q)
        refine And.intro (fun c => absurd c (by decide)) (fun _ => ?_)
        refine s_193e (by unfold zWb; omega) (q := (k : Int)) rfl (by omega) (by omega) ?_
        have k6 : k7 = 6 := by omega
        subst k6
        have hF2 : zF (zJg k (h 36 8)) h h2 := hF.mono (fun r j hf => by
          unfold zJg zJf at hf
          simp only [Bool.or_eq_false_iff] at hf
          exact hf.1.1.1.1)
        refine ⟨500, by omega, Or.inr (Or.inl ⟨rfl, rfl, _, _, _, rfl, e55, rfl, (hF2.st ?_).st ?_, ?_, ?_, ?_, fun i w hi hw => by have hi : i < 0 := hi; omega, hv⟩)⟩
        · simp [zJg, zJf]
        · simp [zJg, zJf]
        · rw [zst_nr (by omega)]
          exact (zst_eq _ _ _ _).trans e368
        · exact zst_eq _ _ _ _
        · show h2 36 8 = h 36 8 + ((0 : Nat) : Int)
          omega
    · obtain ⟨rfl, rfl, x3, q4, q5, rfl, rfl, hm, hF, hp⟩ := hI
      have f1 : h2 13 (P.2.1 k : Int) = (f : Int) := ((hF _ _ (zJg_n (by omega))).trans (he.1.2.2.1 _ 0 hb (by omega))).trans hf.symm
      have f2 : h2 14 (P.2.1 k : Int) = (c : Int) := ((hF _ _ (zJg_n (by omega))).trans (he.1.2.2.1 _ 1 hb (by omega))).trans hc.symm
      refine And.intro (by first | (show 0 ≤ _ ∧ _ < (40 : Int); omega) | (show 0 ≤ _ ∧ _ < (240 : Int); omega) | (show 0 ≤ _ ∧ _ < (6 : Int); omega) | (show 0 ≤ _ ∧ _ < (8 : Int); omega)) ?_
      refine And.intro (by first | (show 0 ≤ _ ∧ _ < (40 : Int); omega) | (show 0 ≤ _ ∧ _ < (240 : Int); omega) | (show 0 ≤ _ ∧ _ < (6 : Int); omega) | (show 0 ≤ _ ∧ _ < (8 : Int); omega)) ?_
      refine And.intro (by omega) ?_
      refine And.intro (by first | (show 0 ≤ _ ∧ _ < (40 : Int); omega) | (show 0 ≤ _ ∧ _ < (240 : Int); omega) | (show 0 ≤ _ ∧ _ < (6 : Int); omega) | (show 0 ≤ _ ∧ _ < (8 : Int); omega)) ?_
      first
      | (exact ⟨c - 0, by omega, Or.inr (Or.inr ⟨rfl, rfl, 0, _, _, rfl, by omega, by omega, by omega, rfl, hF, hp⟩)⟩)
      | (refine ⟨c - (i7 + 1), by omega, Or.inr (Or.inr ⟨rfl, rfl, i7 + 1, _, _, rfl, by omega, by omega, by omega, rfl, hF.tr (zJg_J hG), hp3⟩)⟩)
    · obtain ⟨rfl, rfl, i7, y7, x7, rfl, hy7, hx7, hi, hm, hF, hp⟩ := hI
      have hlo := zlvs_b (u := zUG G) hs0 i7 (fun i hi => hTi i (by omega))
      have hlo2 := hlo.2.1
      have he2 := he.Q (zQf_J hF)
      have e367 : h2 36 7 = (P.1 : Int) := (hF _ _ rfl).trans h7
      have e368 := hp.2.2.1
      constructor
      · intro c2
        have hil : (G.2.1 (P.2.1 k) 0).toNat + i7 < G.2.2.1 := by omega
        obtain ⟨t1, t2⟩ := hTi i7 (by omega)
        refine s_156 hu he2.2.1 (he2.1.sp hw hil (by omega)) t1 t2 hp hlo (by omega) h36 (by omega) (by omega) (fun h3 hG hp3 => ?_)
        refine And.intro (by omega) ?_
        first
        | (exact ⟨c - 0, by omega, Or.inr (Or.inr ⟨rfl, rfl, 0, _, _, rfl, by omega, by omega, by omega, rfl, hF, hp⟩)⟩)
        | (refine ⟨c - (i7 + 1), by omega, Or.inr (Or.inr ⟨rfl, rfl, i7 + 1, _, _, rfl, by omega, by omega, by omega, rfl, hF.tr (zJg_J hG), hp3⟩)⟩)
      · intro c2
        have hic : i7 = c := by omega
        subst hic
        have hz : zps G P k = zlvs (zUG G) ((zGW G).2.2 (P.2.1 k)) i7 (P.2.2.1 k, 0, P.2.2.2.2.2 k) := by unfold zps; rw [hct]
        rw [← hz] at hp hlo hlo2 e368
        have hl24 : zLo (zps G P k) 24 := ⟨hlo.1, by omega, hlo.2.2⟩
        exact hq _ hF hp hl24
/-- how much is left of the first n -/
def zsm (A : Nat → Nat → Int) (n : Nat) : Int := zit (fun j s => s + A j 1) n 0
theorem zsm_e {A B : Nat → Nat → Int} : ∀ n : Nat, (∀ j, j < n → A j 1 = B j 1) → zsm A n = zsm B n
  | 0, _ => rfl
  | n + 1, h => by
    show zsm A n + A n 1 = zsm B n + B n 1
    rw [zsm_e n (fun j hj => h j (by omega)), h n (by omega)]
theorem zsm_b {A : Nat → Nat → Int} : ∀ n : Nat, (∀ j, j < n → 0 ≤ A j 1 ∧ A j 1 ≤ 24) → 0 ≤ zsm A n ∧ zsm A n ≤ 24 * (n : Int)
  | 0, _ => by
    show 0 ≤ (0 : Int) ∧ (0 : Int) ≤ 24 * ((0 : Nat) : Int)
    omega
  | n + 1, h => by
    have a := zsm_b n (fun j hj => h j (by omega))
    have b := h n (by omega)
    show 0 ≤ zsm A n + A n 1 ∧ zsm A n + A n 1 ≤ 24 * ((n + 1 : Nat) : Int)
    omega
theorem zme_A {P : zPS} {b : Nat} {f : Int → Int} {m : Int} : (zme P b f m).1.2.2.2.2 = P.2.2.2.2 := by
  unfold zme
  split
  · rfl
  · split <;> rfl
theorem zpe_A {G : zG} {P : zPS} {k : Nat} {s : zLs} {a : Nat → Int} : (zpe G P k s a).1.2.2.2.2.1 k 1 = (s.2.1 : Int) ∧ ∀ j, j ≠ k → (zpe G P k s a).1.2.2.2.2.1 j = P.2.2.2.2.1 j := by
  have key : ∀ (P2 : zPS) (e o t y : Int), P2.2.2.2.2 = P.2.2.2.2 → (zput P2 k s e o t y).2.2.2.2.1 k 1 = (s.2.1 : Int) ∧ ∀ j, j ≠ k → (zput P2 k s e o t y).2.2.2.2.1 j = P.2.2.2.2.1 j := by
    intro P2 e o t y hA
    refine ⟨?_, fun j hj => ?_⟩
    · show (if k = k then (if (1 : Nat) = 1 then (s.2.1 : Int) else _) else _) = _
      rw [if_pos rfl, if_pos rfl]
    · funext w
      show (if j = k then _ else P2.2.2.2.2.1 j w) = _
      rw [if_neg hj, hA]
  unfold zpe
  split
  · exact key _ _ _ _ _ rfl
  · split
    · refine key _ _ _ _ _ ?_
      show (zm1 G (zm1 G P k s _).1 k s _).1.2.2.2.2 = _
      exact zme_A.trans zme_A
    · exact key _ _ _ _ _ zme_A
theorem zpr_m {G : zG} {P : zPS} {k : Nat} : zsm (zpr G P k).1.2.2.2.2.1 (k + 1) = zsm P.2.2.2.2.1 k + ((zps G P k).2.1 : Int) := by
  have h := zpe_A (G := G) (P := P) (k := k) (s := zps G P k) (a := G.2.1 (P.2.1 k))
  show zsm _ k + (zpr G P k).1.2.2.2.2.1 k 1 = _
  rw [show (zpr G P k).1.2.2.2.2.1 k 1 = _ from h.1, zsm_e (B := P.2.2.2.2.1) k (fun j hj => by rw [show (zpr G P k).1.2.2.2.2.1 j = _ from h.2 j (by omega)])]
/-- the points of a program, and whether they are too many -/
def zPt (G : zG) : zPS × Bool := if G.1 = 0 then (zP0, false) else zxp G 40
def zPW (G : zG) : zW := if (zPt G).2 = true then (0, fun _ _ => 0, fun _ _ _ => 0) else ((zPt G).1.1, (zPt G).1.2.2.2.2.1, (zPt G).1.2.2.2.2.2)
theorem zxp_w {G : zG} (hw : zWf G) (hn : 0 < G.1) {k : Nat} (hv : (zxp G k).2 = false) (hk : k ≤ (zxp G k).1.1) (he : k = 40 ∨ (zxp G k).1.1 ≤ k) : zxp G 40 = zxp G k ∧ (zxp G k).1.1 = k := by
  have ho := zxp_o hw hn k hv hk
  have h40 := ho.1
  have hkn : (zxp G k).1.1 = k := by omega
  exact ⟨(zxp_40 (Or.inr (by omega)) (by omega)).symm, hkn⟩
/-- at the end of it all -/
theorem zPt_o {G : zG} (hw : zWf G) (hv : (zPt G).2 = false) : zPo G (zPt G).1 (zPt G).1.1 ∧ zLe (zPt G).1 (zPt G).1.1 zNo := by
  unfold zPt at hv ⊢
  by_cases hn : G.1 = 0
  · rw [if_pos hn]
    exact ⟨⟨Nat.zero_le _, Nat.zero_le _, fun j hj => absurd hj (Nat.not_lt_zero _), fun j hj => absurd hj (Nat.not_lt_zero _)⟩, fun j hj => absurd hj (Nat.not_lt_zero _)⟩
  · rw [if_neg hn] at hv ⊢
    have hn : 0 < G.1 := by omega
    have key : ∀ k, k ≤ 40 → (zxp G k).2 = false → k ≤ (zxp G k).1.1 ∨ ∃ i, i ≤ k ∧ (zxp G i).1.1 = i ∧ zxp G k = zxp G i ∧ (zxp G i).2 = false := by
      intro k
      induction k with
      | zero => intro _ _; exact Or.inl (Nat.zero_le _)
      | succ k ih =>
        intro hk hv
        by_cases hc : (zxp G k).2 = true ∨ (zxp G k).1.1 ≤ k
        · have e : zxp G (k + 1) = zxp G k := by
            show (if (zxp G k).2 = true ∨ (zxp G k).1.1 ≤ k then zxp G k else _) = _
            rw [if_pos hc]
          rw [e] at hv ⊢
          rcases ih (by omega) hv with h | ⟨i, h1, h2, h3, h4⟩
          · right
            refine ⟨k, by omega, ?_, rfl, hv⟩
            rcases hc with hc | hc
            · rw [hv] at hc; cases hc
            · omega
          · exact Or.inr ⟨i, by omega, h2, h3, h4⟩
        · left
          have h1 : (zxp G k).2 = false := by
            cases e : (zxp G k).2
            · rfl
            · exact absurd (Or.inl e) hc
          have h2 : k < (zxp G k).1.1 := by
            apply Nat.lt_of_not_le
            intro q
            exact hc (Or.inr q)
          have hk1 := zxp_o hw hn k h1 (by omega)
          rw [zxp_s h1 h2] at hv ⊢
          exact (zpr_o hw hk1 h2 hv).2.1
    rcases key 40 (Nat.le_refl _) hv with h | ⟨i, h1, h2, h3, h4⟩
    · have ho := zxp_o hw hn 40 hv h
      have hl := zxp_l hw hn 40 hv h
      have e : (zxp G 40).1.1 = 40 := by have := ho.1; omega
      rw [e]
      exact ⟨ho, hl⟩
    · rw [h3, h2]
      exact ⟨zxp_o hw hn i h4 (by omega), zxp_l hw hn i h4 (by omega)⟩
theorem zPW_w {G : zG} (hw : zWf G) : zWw (zPW G) := by
  unfold zPW
  split
  · exact ⟨Nat.zero_le _, fun p hp => absurd hp (Nat.not_lt_zero _)⟩
  · rename_i h
    have hv : (zPt G).2 = false := by
      cases e : (zPt G).2
      · rfl
      · exact absurd e h
    have ho := (zPt_o hw hv).1
    exact ⟨ho.1, fun p hp => ho.2.2.2 p hp⟩
def zNf : Nat → Int → Bool := fun r j => zQf r j || zDf r j
theorem zNf_Q {h h2 : zM} (hF : zF zQf h h2) : zF zNf h h2 := hF.mono (fun r j hf => (Bool.or_eq_false_iff.mp hf).1)
theorem zNf_D {h h2 : zM} (hF : zF zDf h h2) : zF zNf h h2 := hF.mono (fun r j hf => (Bool.or_eq_false_iff.mp hf).2)
/-- the class's points are those of G -/
def zFc (h : zM) (G : zG) : Prop := h 53 1 = (zUG G : Int) ∧ (∀ c : Nat, c < 8 → h 54 (c : Int) = (zAG G c : Int)) ∧ h 52 5 = (if (zPt G).2 = true then 1 else 0) ∧ zVw h 36 (zPW G) ∧ h 36 8 = zsm (zPW G).2.1 (zPW G).1 ∧ ((zPt G).2 = false → ∀ j : Nat, j < (zPt G).1.1 → h 55 (j : Int) = ((zPt G).1.2.1 j : Int) ∧ h 56 (j : Int) = (zPt G).1.2.2.2.1 j ∧ ∀ v, 0 ≤ v → v < 6 → h 57 ((j : Int) * 6 + v) = (zPt G).1.2.2.1 j v)
theorem zHc.v {h : zM} {P : zPS} (hh : zHc h P P.1) (h40 : P.1 ≤ 40) (h8 : h 36 8 ≤ 960) : zVw h 36 (P.1, P.2.2.2.2.1, P.2.2.2.2.2) := by
  obtain ⟨a, b, c, d⟩ := hh
  have hk : zWk h 36 := by
    unfold zWk
    have e1 : zWn 36 = 40 := rfl
    have e2 : zWs 36 = 960 := rfl
    omega
  refine ⟨hk, a, fun p hp => ?_⟩
  have hp : p < P.1 := hp
  obtain ⟨d1, d2, d3, d4⟩ := d p hp
  refine ⟨d1, d2, d3, fun i hi => ?_⟩
  have hi : (i : Int) < P.2.2.2.2.1 p 1 := hi
  refine ⟨?_, hk, fun w hw => d4 i w hi hw⟩
  show 0 ≤ h 37 (p : Int) + (i : Int) ∧ h 37 (p : Int) + (i : Int) < h 36 8
  omega
set_option maxHeartbeats 4000000 in
set_option maxRecDepth 100000 in
/-- Points.find -/
theorem s_151 {h : zM} {G : zG} (he0 : zEc h G) (hw : zWf G) {Q : zQ} (hq : ∀ h2, zF zNf h h2 → zFc h2 G → Q none h2) : zR 151 [.inr (.inr 52), .inr (.inr 44)] h Q := by
  have hn8 := hw.1
  have hg := he0.1.2.2.2.2.1
  refine zx_met zk_151 (Or.inr ⟨_, _, rfl, rfl⟩) (Nat.le_of_ble_eq_true rfl) (fun x => Nat.beq x 6) 1000 (fun m j L S h2 => (j = 6 ∧ S = [] ∧ ∃ q2 : Option zV, L = [some (.inr (.inr 52)), some (.inr (.inr 44)), q2] ∧ m = 2000 ∧ zF zNf h h2 ∧ zEc h2 G ∧ h2 36 7 = 0 ∧ h2 36 8 = 0 ∧ h2 52 5 = 0) ∨
    (j = 13 ∧ S = [] ∧ ∃ k7 : Nat, L = [some (.inr (.inr 52)), some (.inr (.inr 44)), some (.inl (k7 : Int))] ∧ k7 ≤ 6 ∧ m = 1000 + 6 - k7 ∧ 0 < G.1 ∧ zF zNf h h2 ∧ zEc h2 G ∧ h2 36 7 = 0 ∧ h2 36 8 = 0 ∧ h2 52 5 = 0 ∧ ∀ v, 0 ≤ v → v < (k7 : Int) → h2 58 v = if G.2.2.2.2.1 v < 0 then 0 else G.2.2.2.2.1 v) ∨
    (j = 36 ∧ S = [] ∧ ∃ k7 : Nat, L = [some (.inr (.inr 52)), some (.inr (.inr 44)), some (.inl (k7 : Int))] ∧ k7 ≤ 40 ∧ m = 40 - k7 ∧ 0 < G.1 ∧ zF zNf h h2 ∧ zEc h2 G ∧ ((zxp G k7).2 = false → k7 ≤ (zxp G k7).1.1 ∧ zHc h2 (zxp G k7).1 k7 ∧ h2 36 8 = zsm (zxp G k7).1.2.2.2.2.1 k7 ∧ h2 52 5 = 0) ∧ ((zxp G k7).2 = true → h2 52 5 = 1))) (fun hok hM => ?_) (fun hok hM => ?_)
  · refine s_191 (by unfold zWb; omega) ?_
    refine And.intro (by first | exact Or.inl rfl | exact Or.inr rfl | omega) ?_
    refine ⟨2000, Or.inl ⟨rfl, rfl, _, rfl, rfl, ((zF.rf.st rfl).st rfl).st rfl, ?_, ?_, ?_, ?_⟩⟩
    · exact ⟨he0.1.fr (fun w k hw => by rw [zst_nr (by omega), zst_nr (by omega), zst_nr (by omega)]) (fun _ => rfl) (fun _ => rfl), he0.2.1, he0.2.2⟩
    · simp [zx_st]
    · simp [zx_st]
    · simp [zx_st]
  · rintro n0 i0 L S h2 hM2 (hI | hI | hI)
    · obtain ⟨rfl, rfl, q2, rfl, hm, hF, he, e7, e8, e5⟩ := hI
      have e127 := he.1.1
      constructor
      · intro c1
        first
        | (have hG0 : G.1 = 0 := by omega
           have hz : zPt G = (zP0, false) := by unfold zPt; rw [if_pos hG0]
           have hz2 : zPW G = (0, zP0.2.2.2.2.1, zP0.2.2.2.2.2) := by unfold zPW; rw [hz]; rfl
           refine hq _ hF ⟨he.2.1, he.2.2, ?_, ?_, ?_, fun _ j hj => ?_⟩
           · rw [hz]; exact e5
           · rw [hz2]
             refine ⟨?_, e7, fun p hp => absurd hp (Nat.not_lt_zero _)⟩
             unfold zWk
             have r1 : zWn 36 = 40 := rfl
             have r2 : zWs 36 = 960 := rfl
             omega
           · rw [hz2]; exact e8
           · rw [hz] at hj; exact absurd hj (Nat.not_lt_zero _))
        | (have hz : zPt G = zxp G 40 := by unfold zPt; rw [if_neg (by omega)]
           have hov : (zxp G k7).2 = true := by
             cases e : (zxp G k7).2
             · have := (hv0 e).2.2.2
               omega
             · rfl
           have hz1 : (zPt G).2 = true := by rw [hz, ← zxp_40 (Or.inl hov) hk7]; exact hov
           have hz2 : zPW G = (0, fun _ _ => 0, fun _ _ _ => 0) := by unfold zPW; rw [if_pos hz1]
           refine hq _ ((hF.st rfl).st rfl) ⟨he.2.1, he.2.2, ?_, ?_, ?_, fun q => by rw [hz1] at q; cases q⟩
           · rw [if_pos hz1]; exact hv1 hov
           · rw [hz2]
             refine ⟨?_, by simp [zx_st], fun p hp => absurd hp (Nat.not_lt_zero _)⟩
             have r1 : zWn 36 = 40 := rfl
             have r2 : zWs 36 = 960 := rfl
             simp [zWk, zx_st, r1, r2]
           · rw [hz2]; simp [zx_st, zsm, zit])
        | (have hov : (zxp G k7).2 = false := by
             cases e : (zxp G k7).2
             · rfl
             · have := hv1 e
               omega
           obtain ⟨g1, g2, g3, g4⟩ := hv0 hov
           have g5 := g2.1
           obtain ⟨w1, w2⟩ := zxp_w hw hn0 hov g1 (by omega)
           have hz : zPt G = zxp G k7 := by unfold zPt; rw [if_neg (by omega), w1]
           have hz2 : zPW G = (k7, (zxp G k7).1.2.2.2.2.1, (zxp G k7).1.2.2.2.2.2) := by
             unfold zPW
             rw [hz, hov, w2]
             rfl
           have ho := zxp_o hw hn0 k7 hov g1
           have hsb := zsm_b (A := (zxp G k7).1.2.2.2.2.1) k7 (fun j hj => (ho.2.2.2 j hj).1)
           have g6 : zHc h2 (zxp G k7).1 (zxp G k7).1.1 := by rw [w2]; exact g2
           have hvw := zHc.v g6 ho.1 (by omega)
           rw [w2] at hvw
           refine hq _ hF ⟨he.2.1, he.2.2, ?_, ?_, ?_, fun _ => ?_⟩
           · rw [hz, hov]; exact g4
           · rw [hz2]; exact hvw
           · rw [hz2]; exact g3
           · rw [hz]; exact g2.2.1)
      · intro c1
        first
        | (exact ⟨1000 + 6 - 0, by omega, Or.inr (Or.inl ⟨rfl, rfl, 0, rfl, by omega, rfl, by omega, hF, he, e7, e8, e5, fun v h0 h1 => by omega⟩)⟩)
        | (refine ⟨1000 + 6 - (k7 + 1), by omega, Or.inr (Or.inl ⟨rfl, rfl, k7 + 1, rfl, by omega, rfl, hn0, hF.st rfl, he.fr (fun r k hr => zst_nr (by omega)), e7, e8, e5, zfill hv ?_⟩)⟩
           have q1 := he45 (k7 : Int) (by omega) (by omega)
           have q2 : h2 45 (k7 : Int) = _ := q1
           rw [q2]
           by_cases q3 : G.2.2.2.2.1 (k7 : Int) < 0
           · simp only [if_pos q3]
             rfl
           · simp only [if_neg q3]
             split <;> omega)
    · obtain ⟨rfl, rfl, k7, rfl, hk7, hm, hn0, hF, he, e7, e8, e5, hv⟩ := hI
      have he45 := he.1.2.2.2.2.1
      constructor
      · intro c2
        refine And.intro (by show 0 ≤ _ ∧ _ < (6 : Int); omega) ?_
        refine And.intro (by show 0 ≤ _ ∧ _ < (6 : Int); omega) ?_
        refine And.intro (by omega) ?_
        first
        | (exact ⟨1000 + 6 - 0, by omega, Or.inr (Or.inl ⟨rfl, rfl, 0, rfl, by omega, rfl, by omega, hF, he, e7, e8, e5, fun v h0 h1 => by omega⟩)⟩)
        | (refine ⟨1000 + 6 - (k7 + 1), by omega, Or.inr (Or.inl ⟨rfl, rfl, k7 + 1, rfl, by omega, rfl, hn0, hF.st rfl, he.fr (fun r k hr => zst_nr (by omega)), e7, e8, e5, zfill hv ?_⟩)⟩
           have q1 := he45 (k7 : Int) (by omega) (by omega)
           have q2 : h2 45 (k7 : Int) = _ := q1
           rw [q2]
           by_cases q3 : G.2.2.2.2.1 (k7 : Int) < 0
           · simp only [if_pos q3]
             rfl
           · simp only [if_neg q3]
             split <;> omega)
      · intro c2
        have k6 : k7 = 6 := by omega
        subst k6
        refine s_152 he hw (P := zP0) (k := 0) ⟨e7, fun j hj => absurd hj (Nat.not_lt_zero _), by omega, fun j hj => absurd hj (Nat.not_lt_zero _)⟩ ⟨Nat.zero_le _, Nat.zero_le _, fun j hj => absurd hj (Nat.not_lt_zero _), fun j hj => absurd hj (Nat.not_lt_zero _)⟩ (b := 0) hn0 (F := ztd G G.2.2.2.2.1 0) (fun v h0 h6 => ?_) (m := -4) (fun h3 y hG hh3 hx0 _ => ?_)
        · unfold ztd
          split
          · rename_i q
            have q1 := zUG_k h0 h6 q.1
            have q2 := hv v h0 h6
            rw [if_neg (by omega)] at q2
            exact q2.symm
          · rfl
        first
        | (have hov : (zme zP0 0 (ztd G G.2.2.2.2.1 0) (-4)).2.2 = false := by
             unfold zme
             rw [if_neg (by show ¬ (zfd zP0 0 _ 0 < 0); omega), if_neg (by show ¬ (0 = 40); omega)]
           have hx2 := (hx0 hov).2
           refine ⟨40 - 0, by omega, Or.inr (Or.inr ⟨rfl, rfl, 0, rfl, by omega, rfl, hn0, hF.tr (zNf_Q (zQf_Y hG)), he.Q (zQf_Y hG), fun _ => ⟨Nat.zero_le _, hh3, ?_, by omega⟩, fun q => by cases q⟩)⟩
           have e83 : h3 36 8 = h2 36 8 := hG _ _ rfl
           show h3 36 8 = 0
           omega)
        | (refine ⟨40 - (k7 + 1), by omega, Or.inr (Or.inr ⟨rfl, rfl, k7 + 1, rfl, by omega, rfl, hn0, hF.tr (zNf_Q hG), he.Q hG, fun q => ?_, fun q => ?_⟩)⟩
           · rw [zxp_s hov hkn] at q ⊢
             obtain ⟨z1, z3⟩ := q0 q
             have z4 : h3 52 5 = h2 52 5 := hJ _ _ rfl
             refine ⟨(zpr_o hw ho hkn q).2.1, z1, ?_, by omega⟩
             rw [zpr_m]
             omega
           · rw [zxp_s hov hkn] at q
             exact q1 q)
    · obtain ⟨rfl, rfl, k7, rfl, hk7, hm, hn0, hF, he, hv0, hv1⟩ := hI
      constructor
      · intro c3
        constructor
        · intro c4
          constructor
          · intro c5
            have hov : (zxp G k7).2 = false := by
              cases e : (zxp G k7).2
              · rfl
              · have := hv1 e
                omega
            obtain ⟨g1, g2, g3, g4⟩ := hv0 hov
            have g5 := g2.1
            have hkn : k7 < (zxp G k7).1.1 := by omega
            have ho := zxp_o hw hn0 k7 hov g1
            have hsb := zsm_b (A := (zxp G k7).1.2.2.2.2.1) k7 (fun j hj => (ho.2.2.2 j hj).1)
            refine s_155 he hw g2 ho hkn (by omega) (fun h3 hJ hp3 hl3 => ?_)
            have e83 := hp3.2.2.1
            have g36 := g2.2.2.1
            refine s_158 (he.Q (zQf_J hJ)) hw (g2.J hJ (by omega)) ho hkn hp3 g36 hl3 (fun h4 hG4 g8 q0 q1 => ?_)
            have hG := (zQf_J hJ).tr hG4
            refine And.intro (by omega) ?_
            first
            | (have hov : (zme zP0 0 (ztd G G.2.2.2.2.1 0) (-4)).2.2 = false := by
                 unfold zme
                 rw [if_neg (by show ¬ (zfd zP0 0 _ 0 < 0); omega), if_neg (by show ¬ (0 = 40); omega)]
               have hx2 := (hx0 hov).2
               refine ⟨40 - 0, by omega, Or.inr (Or.inr ⟨rfl, rfl, 0, rfl, by omega, rfl, hn0, hF.tr (zNf_Q (zQf_Y hG)), he.Q (zQf_Y hG), fun _ => ⟨Nat.zero_le _, hh3, ?_, by omega⟩, fun q => by cases q⟩)⟩
               have e83 : h3 36 8 = h2 36 8 := hG _ _ rfl
               show h3 36 8 = 0
               omega)
            | (refine ⟨40 - (k7 + 1), by omega, Or.inr (Or.inr ⟨rfl, rfl, k7 + 1, rfl, by omega, rfl, hn0, hF.tr (zNf_Q hG), he.Q hG, fun q => ?_, fun q => ?_⟩)⟩
               · rw [zxp_s hov hkn] at q ⊢
                 obtain ⟨z1, z3⟩ := q0 q
                 have z4 : h3 52 5 = h2 52 5 := hJ _ _ rfl
                 refine ⟨(zpr_o hw ho hkn q).2.1, z1, ?_, by omega⟩
                 rw [zpr_m]
                 omega
               · rw [zxp_s hov hkn] at q
                 exact q1 q)
          · intro c5
            constructor
            · intro c6
              first
              | (have hG0 : G.1 = 0 := by omega
                 have hz : zPt G = (zP0, false) := by unfold zPt; rw [if_pos hG0]
                 have hz2 : zPW G = (0, zP0.2.2.2.2.1, zP0.2.2.2.2.2) := by unfold zPW; rw [hz]; rfl
                 refine hq _ hF ⟨he.2.1, he.2.2, ?_, ?_, ?_, fun _ j hj => ?_⟩
                 · rw [hz]; exact e5
                 · rw [hz2]
                   refine ⟨?_, e7, fun p hp => absurd hp (Nat.not_lt_zero _)⟩
                   unfold zWk
                   have r1 : zWn 36 = 40 := rfl
                   have r2 : zWs 36 = 960 := rfl
                   omega
                 · rw [hz2]; exact e8
                 · rw [hz] at hj; exact absurd hj (Nat.not_lt_zero _))
              | (have hz : zPt G = zxp G 40 := by unfold zPt; rw [if_neg (by omega)]
                 have hov : (zxp G k7).2 = true := by
                   cases e : (zxp G k7).2
                   · have := (hv0 e).2.2.2
                     omega
                   · rfl
                 have hz1 : (zPt G).2 = true := by rw [hz, ← zxp_40 (Or.inl hov) hk7]; exact hov
                 have hz2 : zPW G = (0, fun _ _ => 0, fun _ _ _ => 0) := by unfold zPW; rw [if_pos hz1]
                 refine hq _ ((hF.st rfl).st rfl) ⟨he.2.1, he.2.2, ?_, ?_, ?_, fun q => by rw [hz1] at q; cases q⟩
                 · rw [if_pos hz1]; exact hv1 hov
                 · rw [hz2]
                   refine ⟨?_, by simp [zx_st], fun p hp => absurd hp (Nat.not_lt_zero _)⟩
                   have r1 : zWn 36 = 40 := rfl
                   have r2 : zWs 36 = 960 := rfl
                   simp [zWk, zx_st, r1, r2]
                 · rw [hz2]; simp [zx_st, zsm, zit])
              | (have hov : (zxp G k7).2 = false := by
                   cases e : (zxp G k7).2
                   · rfl
                   · have := hv1 e
                     omega
                 obtain ⟨g1, g2, g3, g4⟩ := hv0 hov
                 have g5 := g2.1
                 obtain ⟨w1, w2⟩ := zxp_w hw hn0 hov g1 (by omega)
                 have hz : zPt G = zxp G k7 := by unfold zPt; rw [if_neg (by omega), w1]
                 have hz2 : zPW G = (k7, (zxp G k7).1.2.2.2.2.1, (zxp G k7).1.2.2.2.2.2) := by
                   unfold zPW
                   rw [hz, hov, w2]
                   rfl
                 have ho := zxp_o hw hn0 k7 hov g1
                 have hsb := zsm_b (A := (zxp G k7).1.2.2.2.2.1) k7 (fun j hj => (ho.2.2.2 j hj).1)
                 have g6 : zHc h2 (zxp G k7).1 (zxp G k7).1.1 := by rw [w2]; exact g2
                 have hvw := zHc.v g6 ho.1 (by omega)
                 rw [w2] at hvw
                 refine hq _ hF ⟨he.2.1, he.2.2, ?_, ?_, ?_, fun _ => ?_⟩
                 · rw [hz, hov]; exact g4
                 · rw [hz2]; exact hvw
                 · rw [hz2]; exact g3
                 · rw [hz]; exact g2.2.1)
            · intro c6
              refine s_191 (by unfold zWb; omega) ?_
              first
              | (have hG0 : G.1 = 0 := by omega
                 have hz : zPt G = (zP0, false) := by unfold zPt; rw [if_pos hG0]
                 have hz2 : zPW G = (0, zP0.2.2.2.2.1, zP0.2.2.2.2.2) := by unfold zPW; rw [hz]; rfl
                 refine hq _ hF ⟨he.2.1, he.2.2, ?_, ?_, ?_, fun _ j hj => ?_⟩
                 · rw [hz]; exact e5
                 · rw [hz2]
                   refine ⟨?_, e7, fun p hp => absurd hp (Nat.not_lt_zero _)⟩
                   unfold zWk
                   have r1 : zWn 36 = 40 := rfl
                   have r2 : zWs 36 = 960 := rfl
                   omega
                 · rw [hz2]; exact e8
                 · rw [hz] at hj; exact absurd hj (Nat.not_lt_zero _))
              | (have hz : zPt G = zxp G 40 := by unfold zPt; rw [if_neg (by omega)]
                 have hov : (zxp G k7).2 = true := by
                   cases e : (zxp G k7).2
                   · have := (hv0 e).2.2.2
                     omega
                   · rfl
                 have hz1 : (zPt G).2 = true := by rw [hz, ← zxp_40 (Or.inl hov) hk7]; exact hov
                 have hz2 : zPW G = (0, fun _ _ => 0, fun _ _ _ => 0) := by unfold zPW; rw [if_pos hz1]
                 refine hq _ ((hF.st rfl).st rfl) ⟨he.2.1, he.2.2, ?_, ?_, ?_, fun q => by rw [hz1] at q; cases q⟩
                 · rw [if_pos hz1]; exact hv1 hov
                 · rw [hz2]
                   refine ⟨?_, by simp [zx_st], fun p hp => absurd hp (Nat.not_lt_zero _)⟩
                   have r1 : zWn 36 = 40 := rfl
                   have r2 : zWs 36 = 960 := rfl
                   simp [zWk, zx_st, r1, r2]
                 · rw [hz2]; simp [zx_st, zsm, zit])
              | (have hov : (zxp G k7).2 = false := by
                   cases e : (zxp G k7).2
                   · rfl
                   · have := hv1 e
                     omega
                 obtain ⟨g1, g2, g3, g4⟩ := hv0 hov
                 have g5 := g2.1
                 obtain ⟨w1, w2⟩ := zxp_w hw hn0 hov g1 (by omega)
                 have hz : zPt G = zxp G k7 := by unfold zPt; rw [if_neg (by omega), w1]
                 have hz2 : zPW G = (k7, (zxp G k7).1.2.2.2.2.1, (zxp G k7).1.2.2.2.2.2) := by
                   unfold zPW
                   rw [hz, hov, w2]
                   rfl
                 have ho := zxp_o hw hn0 k7 hov g1
                 have hsb := zsm_b (A := (zxp G k7).1.2.2.2.2.1) k7 (fun j hj => (ho.2.2.2 j hj).1)
                 have g6 : zHc h2 (zxp G k7).1 (zxp G k7).1.1 := by rw [w2]; exact g2
                 have hvw := zHc.v g6 ho.1 (by omega)
                 rw [w2] at hvw
                 refine hq _ hF ⟨he.2.1, he.2.2, ?_, ?_, ?_, fun _ => ?_⟩
                 · rw [hz, hov]; exact g4
                 · rw [hz2]; exact hvw
                 · rw [hz2]; exact g3
                 · rw [hz]; exact g2.2.1)
        · intro c4
          constructor
          · intro c7
            first
            | (have hG0 : G.1 = 0 := by omega
               have hz : zPt G = (zP0, false) := by unfold zPt; rw [if_pos hG0]
               have hz2 : zPW G = (0, zP0.2.2.2.2.1, zP0.2.2.2.2.2) := by unfold zPW; rw [hz]; rfl
               refine hq _ hF ⟨he.2.1, he.2.2, ?_, ?_, ?_, fun _ j hj => ?_⟩
               · rw [hz]; exact e5
               · rw [hz2]
                 refine ⟨?_, e7, fun p hp => absurd hp (Nat.not_lt_zero _)⟩
                 unfold zWk
                 have r1 : zWn 36 = 40 := rfl
                 have r2 : zWs 36 = 960 := rfl
                 omega
               · rw [hz2]; exact e8
               · rw [hz] at hj; exact absurd hj (Nat.not_lt_zero _))
            | (have hz : zPt G = zxp G 40 := by unfold zPt; rw [if_neg (by omega)]
               have hov : (zxp G k7).2 = true := by
                 cases e : (zxp G k7).2
                 · have := (hv0 e).2.2.2
                   omega
                 · rfl
               have hz1 : (zPt G).2 = true := by rw [hz, ← zxp_40 (Or.inl hov) hk7]; exact hov
               have hz2 : zPW G = (0, fun _ _ => 0, fun _ _ _ => 0) := by unfold zPW; rw [if_pos hz1]
               refine hq _ ((hF.st rfl).st rfl) ⟨he.2.1, he.2.2, ?_, ?_, ?_, fun q => by rw [hz1] at q; cases q⟩
               · rw [if_pos hz1]; exact hv1 hov
               · rw [hz2]
                 refine ⟨?_, by simp [zx_st], fun p hp => absurd hp (Nat.not_lt_zero _)⟩
                 have r1 : zWn 36 = 40 := rfl
                 have r2 : zWs 36 = 960 := rfl
                 simp [zWk, zx_st, r1, r2]
               · rw [hz2]; simp [zx_st, zsm, zit])
            | (have hov : (zxp G k7).2 = false := by
                 cases e : (zxp G k7).2
                 · rfl
                 · have := hv1 e
                   omega
               obtain ⟨g1, g2, g3, g4⟩ := hv0 hov
               have g5 := g2.1
               obtain ⟨w1, w2⟩ := zxp_w hw hn0 hov g1 (by omega)
               have hz : zPt G = zxp G k7 := by unfold zPt; rw [if_neg (by omega), w1]
               have hz2 : zPW G = (k7, (zxp G k7).1.2.2.2.2.1, (zxp G k7).1.2.2.2.2.2) := by
                 unfold zPW
                 rw [hz, hov, w2]
                 rfl
               have ho := zxp_o hw hn0 k7 hov g1
               have hsb := zsm_b (A := (zxp G k7).1.2.2.2.2.1) k7 (fun j hj => (ho.2.2.2 j hj).1)
               have g6 : zHc h2 (zxp G k7).1 (zxp G k7).1.1 := by rw [w2]; exact g2
               have hvw := zHc.v g6 ho.1 (by omega)
               rw [w2] at hvw
               refine hq _ hF ⟨he.2.1, he.2.2, ?_, ?_, ?_, fun _ => ?_⟩
               · rw [hz, hov]; exact g4
               · rw [hz2]; exact hvw
               · rw [hz2]; exact g3
               · rw [hz]; exact g2.2.1)
          · intro c7
            refine s_191 (by unfold zWb; omega) ?_
            first
            | (have hG0 : G.1 = 0 := by omega
               have hz : zPt G = (zP0, false) := by unfold zPt; rw [if_pos hG0]
               have hz2 : zPW G = (0, zP0.2.2.2.2.1, zP0.2.2.2.2.2) := by unfold zPW; rw [hz]; rfl
               refine hq _ hF ⟨he.2.1, he.2.2, ?_, ?_, ?_, fun _ j hj => ?_⟩
               · rw [hz]; exact e5
               · rw [hz2]
                 refine ⟨?_, e7, fun p hp => absurd hp (Nat.not_lt_zero _)⟩
                 unfold zWk
                 have r1 : zWn 36 = 40 := rfl
                 have r2 : zWs 36 = 960 := rfl
                 omega
               · rw [hz2]; exact e8
               · rw [hz] at hj; exact absurd hj (Nat.not_lt_zero _))
            | (have hz : zPt G = zxp G 40 := by unfold zPt; rw [if_neg (by omega)]
               have hov : (zxp G k7).2 = true := by
                 cases e : (zxp G k7).2
                 · have := (hv0 e).2.2.2
                   omega
                 · rfl
               have hz1 : (zPt G).2 = true := by rw [hz, ← zxp_40 (Or.inl hov) hk7]; exact hov
               have hz2 : zPW G = (0, fun _ _ => 0, fun _ _ _ => 0) := by unfold zPW; rw [if_pos hz1]
               refine hq _ ((hF.st rfl).st rfl) ⟨he.2.1, he.2.2, ?_, ?_, ?_, fun q => by rw [hz1] at q; cases q⟩
               · rw [if_pos hz1]; exact hv1 hov
               · rw [hz2]
                 refine ⟨?_, by simp [zx_st], fun p hp => absurd hp (Nat.not_lt_zero _)⟩
                 have r1 : zWn 36 = 40 := rfl
                 have r2 : zWs 36 = 960 := rfl
                 simp [zWk, zx_st, r1, r2]
               · rw [hz2]; simp [zx_st, zsm, zit])
            | (have hov : (zxp G k7).2 = false := by
                 cases e : (zxp G k7).2
                 · rfl
                 · have := hv1 e
                   omega
               obtain ⟨g1, g2, g3, g4⟩ := hv0 hov
               have g5 := g2.1
               obtain ⟨w1, w2⟩ := zxp_w hw hn0 hov g1 (by omega)
               have hz : zPt G = zxp G k7 := by unfold zPt; rw [if_neg (by omega), w1]
               have hz2 : zPW G = (k7, (zxp G k7).1.2.2.2.2.1, (zxp G k7).1.2.2.2.2.2) := by
                 unfold zPW
                 rw [hz, hov, w2]
                 rfl
               have ho := zxp_o hw hn0 k7 hov g1
               have hsb := zsm_b (A := (zxp G k7).1.2.2.2.2.1) k7 (fun j hj => (ho.2.2.2 j hj).1)
               have g6 : zHc h2 (zxp G k7).1 (zxp G k7).1.1 := by rw [w2]; exact g2
               have hvw := zHc.v g6 ho.1 (by omega)
               rw [w2] at hvw
               refine hq _ hF ⟨he.2.1, he.2.2, ?_, ?_, ?_, fun _ => ?_⟩
               · rw [hz, hov]; exact g4
               · rw [hz2]; exact hvw
               · rw [hz2]; exact g3
               · rw [hz]; exact g2.2.1)
      · intro c3
        constructor
        · intro c8
          first
          | (have hG0 : G.1 = 0 := by omega
             have hz : zPt G = (zP0, false) := by unfold zPt; rw [if_pos hG0]
             have hz2 : zPW G = (0, zP0.2.2.2.2.1, zP0.2.2.2.2.2) := by unfold zPW; rw [hz]; rfl
             refine hq _ hF ⟨he.2.1, he.2.2, ?_, ?_, ?_, fun _ j hj => ?_⟩
             · rw [hz]; exact e5
             · rw [hz2]
               refine ⟨?_, e7, fun p hp => absurd hp (Nat.not_lt_zero _)⟩
               unfold zWk
               have r1 : zWn 36 = 40 := rfl
               have r2 : zWs 36 = 960 := rfl
               omega
             · rw [hz2]; exact e8
             · rw [hz] at hj; exact absurd hj (Nat.not_lt_zero _))
          | (have hz : zPt G = zxp G 40 := by unfold zPt; rw [if_neg (by omega)]
             have hov : (zxp G k7).2 = true := by
               cases e : (zxp G k7).2
               · have := (hv0 e).2.2.2
                 omega
               · rfl
             have hz1 : (zPt G).2 = true := by rw [hz, ← zxp_40 (Or.inl hov) hk7]; exact hov
             have hz2 : zPW G = (0, fun _ _ => 0, fun _ _ _ => 0) := by unfold zPW; rw [if_pos hz1]
             refine hq _ ((hF.st rfl).st rfl) ⟨he.2.1, he.2.2, ?_, ?_, ?_, fun q => by rw [hz1] at q; cases q⟩
             · rw [if_pos hz1]; exact hv1 hov
             · rw [hz2]
               refine ⟨?_, by simp [zx_st], fun p hp => absurd hp (Nat.not_lt_zero _)⟩
               have r1 : zWn 36 = 40 := rfl
               have r2 : zWs 36 = 960 := rfl
               simp [zWk, zx_st, r1, r2]
             · rw [hz2]; simp [zx_st, zsm, zit])
          | (have hov : (zxp G k7).2 = false := by
               cases e : (zxp G k7).2
               · rfl
               · have := hv1 e
                 omega
             obtain ⟨g1, g2, g3, g4⟩ := hv0 hov
             have g5 := g2.1
             obtain ⟨w1, w2⟩ := zxp_w hw hn0 hov g1 (by omega)
             have hz : zPt G = zxp G k7 := by unfold zPt; rw [if_neg (by omega), w1]
             have hz2 : zPW G = (k7, (zxp G k7).1.2.2.2.2.1, (zxp G k7).1.2.2.2.2.2) := by
               unfold zPW
               rw [hz, hov, w2]
               rfl
             have ho := zxp_o hw hn0 k7 hov g1
             have hsb := zsm_b (A := (zxp G k7).1.2.2.2.2.1) k7 (fun j hj => (ho.2.2.2 j hj).1)
             have g6 : zHc h2 (zxp G k7).1 (zxp G k7).1.1 := by rw [w2]; exact g2
             have hvw := zHc.v g6 ho.1 (by omega)
             rw [w2] at hvw
             refine hq _ hF ⟨he.2.1, he.2.2, ?_, ?_, ?_, fun _ => ?_⟩
             · rw [hz, hov]; exact g4
             · rw [hz2]; exact hvw
             · rw [hz2]; exact g3
             · rw [hz]; exact g2.2.1)
        · intro c8
          refine s_191 (by unfold zWb; omega) ?_
          first
          | (have hG0 : G.1 = 0 := by omega
             have hz : zPt G = (zP0, false) := by unfold zPt; rw [if_pos hG0]
             have hz2 : zPW G = (0, zP0.2.2.2.2.1, zP0.2.2.2.2.2) := by unfold zPW; rw [hz]; rfl
             refine hq _ hF ⟨he.2.1, he.2.2, ?_, ?_, ?_, fun _ j hj => ?_⟩
             · rw [hz]; exact e5
             · rw [hz2]
               refine ⟨?_, e7, fun p hp => absurd hp (Nat.not_lt_zero _)⟩
               unfold zWk
               have r1 : zWn 36 = 40 := rfl
               have r2 : zWs 36 = 960 := rfl
               omega
             · rw [hz2]; exact e8
             · rw [hz] at hj; exact absurd hj (Nat.not_lt_zero _))
          | (have hz : zPt G = zxp G 40 := by unfold zPt; rw [if_neg (by omega)]
             have hov : (zxp G k7).2 = true := by
               cases e : (zxp G k7).2
               · have := (hv0 e).2.2.2
                 omega
               · rfl
             have hz1 : (zPt G).2 = true := by rw [hz, ← zxp_40 (Or.inl hov) hk7]; exact hov
             have hz2 : zPW G = (0, fun _ _ => 0, fun _ _ _ => 0) := by unfold zPW; rw [if_pos hz1]
             refine hq _ ((hF.st rfl).st rfl) ⟨he.2.1, he.2.2, ?_, ?_, ?_, fun q => by rw [hz1] at q; cases q⟩
             · rw [if_pos hz1]; exact hv1 hov
             · rw [hz2]
               refine ⟨?_, by simp [zx_st], fun p hp => absurd hp (Nat.not_lt_zero _)⟩
               have r1 : zWn 36 = 40 := rfl
               have r2 : zWs 36 = 960 := rfl
               simp [zWk, zx_st, r1, r2]
             · rw [hz2]; simp [zx_st, zsm, zit])
          | (have hov : (zxp G k7).2 = false := by
               cases e : (zxp G k7).2
               · rfl
               · have := hv1 e
                 omega
             obtain ⟨g1, g2, g3, g4⟩ := hv0 hov
             have g5 := g2.1
             obtain ⟨w1, w2⟩ := zxp_w hw hn0 hov g1 (by omega)
             have hz : zPt G = zxp G k7 := by unfold zPt; rw [if_neg (by omega), w1]
             have hz2 : zPW G = (k7, (zxp G k7).1.2.2.2.2.1, (zxp G k7).1.2.2.2.2.2) := by
               unfold zPW
               rw [hz, hov, w2]
               rfl
             have ho := zxp_o hw hn0 k7 hov g1
             have hsb := zsm_b (A := (zxp G k7).1.2.2.2.2.1) k7 (fun j hj => (ho.2.2.2 j hj).1)
             have g6 : zHc h2 (zxp G k7).1 (zxp G k7).1.1 := by rw [w2]; exact g2
             have hvw := zHc.v g6 ho.1 (by omega)
             rw [w2] at hvw
             refine hq _ hF ⟨he.2.1, he.2.2, ?_, ?_, ?_, fun _ => ?_⟩
             · rw [hz, hov]; exact g4
             · rw [hz2]; exact hvw
             · rw [hz2]; exact g3
             · rw [hz]; exact g2.2.1)
