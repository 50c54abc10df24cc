/-! The reference: a point is gone through; all are made -/
theorem s_75m {h : zM} {G : zG} (he : zEm h G) (hw : zWf G) {P : zPS} {k : Nat} (hh : zHm h P k) (h40 : P.1 ≤ 40) {s : zLs} (p5 : ∀ v, 0 ≤ v → v < 6 → h 95 v = s.1 v) {b : Nat} (hb : b < G.1) {x : Int} (hx : x = (b : Int)) {Q : zQ} (hq : ∀ h2 y, zF zMy h h2 → zHm h2 (zm1 G P k s b).1 k → ((zm1 G P k s b).2.2 = false → y = ((zm1 G P k s b).2.1 : Int) ∧ h2 81 16 = h 81 16) → ((zm1 G P k s b).2.2 = true → h2 81 16 = 1) → Q (some (.inl y)) h2) : zR 75 [.inr (.inr 81), .inl x] h Q :=
  s_75 he hw hh h40 hb hx (F := ztd G s.1 b) (fun v h0 h6 => by unfold ztd; rw [p5 v h0 h6]) (k : Int) hq
def zMk (k : Nat) : Nat → Int → Bool := fun r j => zMj k r j || (Nat.ble 89 r && Nat.ble r 92 && decide (j = (k : Int)))
theorem zMk_J {k : Nat} {h h2 : zM} (hF : zF (zMj k) h h2) : zF (zMk k) h h2 := hF.mono (fun r j hf => by
  unfold zMk at hf
  exact (Bool.or_eq_false_iff.mp hf).1)
theorem zMk_r {k : Nat} {r : Nat} (h1 : 89 ≤ r) (h2 : r ≤ 92) : zMk k r (k : Int) = true := by
  unfold zMk
  rw [Nat.ble_eq.mpr h1, Nat.ble_eq.mpr h2]
  simp
theorem zMk_n {k : Nat} {r : Nat} {j : Int} (h : r < 89 ∨ 95 < r) : zMk k r j = false := by
  unfold zMk zMj
  rw [zbeq_ne (show r ≠ 95 by omega), zbeq_ne (show r ≠ 93 by omega), zbeq_ne (show r ≠ 94 by omega)]
  have : (Nat.ble 89 r && Nat.ble r 92) = false := by
    cases e1 : Nat.ble 89 r
    · rfl
    · cases e2 : Nat.ble r 92
      · rfl
      · have := Nat.ble_eq.mp e1; have := Nat.ble_eq.mp e2; omega
  rw [this]
  rfl
theorem zMk_j {k : Nat} {r : Nat} {j : Int} (hj : j ≠ (k : Int)) (h1 : r < 94) : zMk k r j = false := by
  unfold zMk zMj
  rw [zbeq_ne (show r ≠ 95 by omega), zbeq_ne (show r ≠ 94 by omega), decide_eq_false hj]
  simp
theorem zHm.K {h h2 : zM} {P : zPS} {k : Nat} (hh : zHm h P k) (ho : ∀ j, j < k → P.2.2.2.2.1 j 1 ≤ 24) (hF : zF (zMk k) h h2) : zHm h2 P k := by
  obtain ⟨a, b, c⟩ := hh
  refine ⟨(hF _ _ (zMk_n (by omega))).trans a, fun j hj => ?_, fun j hj => ?_⟩
  · obtain ⟨b1, b2⟩ := b j hj
    exact ⟨(hF _ _ (zMk_n (by omega))).trans b1, fun v h0 h6 => (hF _ _ (zMk_n (by omega))).trans (b2 v h0 h6)⟩
  · obtain ⟨c1, c2, c3, c4, c5, c6⟩ := c j hj
    have hj2 := ho j hj
    refine ⟨(hF _ _ (zMk_j (by omega) (by omega))).trans c1, (hF _ _ (zMk_j (by omega) (by omega))).trans c2, (hF _ _ (zMk_j (by omega) (by omega))).trans c3, (hF _ _ (zMk_j (by omega) (by omega))).trans c4, (hF _ _ (zMk_j (by omega) (by omega))).trans c5, fun i w hi hw => ?_⟩
    rw [hF 94 _ ?_]
    · exact c6 i w hi hw
    · unfold zMk zMj
      have q1 : decide (120 * (k : Int) ≤ 120 * (j : Int) + 5 * (i : Int) + (w : Int)) = false := decide_eq_false (by omega)
      rw [q1]
      rfl
theorem zKm.Y {h h2 : zM} {k : Nat} {s : zLs} (hp : zKm h k s) (hF : zF zMy h h2) : zKm h2 k s := ⟨(hF _ _ rfl).trans hp.1, fun i w hi hw => (hF _ _ rfl).trans (hp.2.1 i w hi hw), fun v h0 h6 => (hF _ _ rfl).trans (hp.2.2 v h0 h6)⟩
theorem zKm.st {h : zM} {k : Nat} {s : zLs} (hp : zKm h k s) {r : Nat} (hr : r < 93) (j v : Int) : zKm (zx_st h r j v) k s := by
  refine ⟨?_, fun i w hi hw => ?_, fun v h0 h6 => ?_⟩
  · rw [zst_nr (by omega)]; exact hp.1
  · rw [zst_nr (by omega)]; exact hp.2.1 i w hi hw
  · rw [zst_nr (by omega)]; exact hp.2.2 v h0 h6
theorem zEm.st {h : zM} {G : zG} (he : zEm h G) {r : Nat} (hr : 86 < r) (j v : Int) : zEm (zx_st h r j v) G := he.fr (fun _ => zst_nr (by omega)) (fun _ => zst_nr (by omega)) (zst_nr (by omega))
theorem zEm.Y {h h2 : zM} {G : zG} (he : zEm h G) (hF : zF zMy h h2) : zEm h2 G := he.fr (fun _ => hF _ _ rfl) (fun _ => hF _ _ rfl) (hF _ _ rfl)
theorem zHm.put {h : zM} {P : zPS} {k : Nat} (hh : zHm h P k) {s : zLs} (hp : zKm h k s) {e o t y : Int} (e89 : h 89 (k : Int) = e) (e90 : h 90 (k : Int) = o) (e91 : h 91 (k : Int) = t) (e92 : h 92 (k : Int) = y) : zHm h (zput P k s e o t y) (k + 1) := by
  obtain ⟨p1, p2, p3⟩ := hp
  obtain ⟨a, b, c⟩ := hh
  refine ⟨a, b, fun j hj => ?_⟩
  show h 93 (j : Int) = (if j = k then (s.2.1 : Int) else P.2.2.2.2.1 j 1) ∧ h 89 (j : Int) = (if j = k then e else P.2.2.2.2.1 j 2) ∧ h 90 (j : Int) = (if j = k then o else P.2.2.2.2.1 j 3) ∧ h 91 (j : Int) = (if j = k then t else P.2.2.2.2.1 j 4) ∧ h 92 (j : Int) = (if j = k then y else P.2.2.2.2.1 j 5) ∧ ∀ i w : Nat, (i : Int) < (if j = k then (s.2.1 : Int) else P.2.2.2.2.1 j 1) → w < 5 → h 94 (120 * (j : Int) + 5 * (i : Int) + (w : Int)) = (if j = k then s.2.2 else P.2.2.2.2.2 j) i w
  by_cases ej : j = k
  · subst ej
    simp only [if_true]
    exact ⟨p1, e89, e90, e91, e92, fun i w hi hw => p2 i w (by omega) hw⟩
  · simp only [if_neg ej]
    exact c j (by omega)
theorem zHm.st {h : zM} {P : zPS} {k : Nat} (hh : zHm h P k) {r : Nat} (h1 : 88 < r) (h2 : r < 93) (v : Int) : zHm (zx_st h r (k : Int) v) P k := by
  obtain ⟨a, b, c⟩ := hh
  refine ⟨by rw [zst_nr (by omega)]; exact a, fun j hj => ?_, fun j hj => ?_⟩
  · rw [zst_nr (by omega)]
    exact ⟨(b j hj).1, fun v h0 h6 => by rw [zst_nr (by omega)]; exact (b j hj).2 v h0 h6⟩
  · obtain ⟨c1, c2, c3, c4, c5, c6⟩ := c j hj
    rw [zst_ne (by omega), zst_ne (by omega), zst_ne (by omega), zst_ne (by omega), zst_ne (by omega)]
    exact ⟨c1, c2, c3, c4, c5, fun i w hi hw => by rw [zst_nr (by omega)]; exact c6 i w hi hw⟩
/-- all that the reference's points may change -/
def zMq : Nat → Int → Bool := fun r j => (Nat.ble 87 r && Nat.ble r 95) || (Nat.beq r 81 && (decide (j = 15) || decide (j = 16)))
theorem zMq_in {r : Nat} {j : Int} (h1 : 87 ≤ r) (h2 : r ≤ 95) : zMq r j = true := by
  unfold zMq
  rw [Nat.ble_eq.mpr h1, Nat.ble_eq.mpr h2]
  rfl
theorem zMq_K {k : Nat} {h h2 : zM} (hF : zF (zMk k) h h2) : zF zMq h h2 := hF.mono (fun r j hf => by
  by_cases q : r < 89 ∨ 95 < r
  · exact zMk_n q
  · rw [zMq_in (by omega) (by omega)] at hf
    cases hf)
theorem zMq_Y {h h2 : zM} (hF : zF zMy h h2) : zF zMq h h2 := hF.mono (fun r j hf => by
  unfold zMy
  by_cases q : 87 ≤ r ∧ r ≤ 88
  · rw [zMq_in (by omega) (by omega)] at hf
    cases hf
  · rw [zbeq_ne (show r ≠ 87 by omega), zbeq_ne (show r ≠ 88 by omega)]
    unfold zMq at hf
    exact (Bool.or_eq_false_iff.mp hf).2)
theorem zEm.Q {h h2 : zM} {G : zG} (he : zEm h G) (hF : zF zMq h h2) : zEm h2 G := he.fr (fun _ => hF _ _ rfl) (fun _ => hF _ _ rfl) (hF _ _ rfl)
/-- what the reference finds at the end of a point: end, by, both, first -/
def zM5 (G : zG) (s : zLs) (a : Nat → Int) (b5 f6 : Int) : Prop := (a 2 = 2 ∧ b5 = 0 ∧ f6 = 0) ∨ (a 2 = 1 ∧ Nat.testBit (zUG G) (a 5).toNat = true ∧ b5 = 1 ∧ f6 = 1) ∨ (¬ a 2 = 2 ∧ ¬ (a 2 = 1 ∧ Nat.testBit (zUG G) (a 5).toNat = true) ∧ b5 = 0 ∧ (f6 = 1 ∧ (a 2 = 0 ∨ ¬ s.1 (a 5) = 0) ∨ f6 = 0 ∧ ¬ (a 2 = 0 ∨ ¬ s.1 (a 5) = 0)))
def zt5 (s : zLs) (a : Nat → Int) (b5 : Int) : Nat := (if b5 = 1 then a 3 else if a 2 = 0 ∨ ¬ s.1 (a 5) = 0 then a 3 else a 4).toNat
set_option maxHeartbeats 4000000 in
set_option maxRecDepth 100000 in
/-- M.goesThrough -/
theorem s_80 {h : zM} {G : zG} (he : zEm h G) (hw : zWf G) {P : zPS} {k : Nat} (hh : zHm h P k) (ho : zPo G P k) (hk : k < P.1) {Q : zQ} (hq : ∀ h2, zF zMq h h2 → ((zpr G P k).2 = false → zHm h2 (zpr G P k).1 (k + 1) ∧ h2 81 16 = h 81 16) → ((zpr G P k).2 = true → h2 81 16 = 1) → Q none h2) : zR 80 [.inr (.inr 81), .inl (k : Int)] h Q := by
  have h40 := ho.1
  obtain ⟨hb, hvb⟩ := ho.2.2.1 k hk
  obtain ⟨w1, w2, w3, w4⟩ := hw.2.2.1 _ hb
  have hn8 := hw.1
  have hn24 := hw.2.1
  have hu := zUG_b hw
  obtain ⟨hk1, hk3⟩ := hh.2.1 k hk
  obtain ⟨c, hc⟩ : ∃ c : Nat, (c : Int) = G.2.1 (P.2.1 k) 1 := ⟨(G.2.1 (P.2.1 k) 1).toNat, by omega⟩
  obtain ⟨f, hf⟩ : ∃ f : Nat, (f : Int) = G.2.1 (P.2.1 k) 0 := ⟨(G.2.1 (P.2.1 k) 0).toNat, by omega⟩
  have hct : (G.2.1 (P.2.1 k) 1).toNat = c := by omega
  have hft : (G.2.1 (P.2.1 k) 0).toNat = f := by omega
  have hTi : ∀ i : Nat, i < c → zWS ((zGW G).2.2 (P.2.1 k) i) ∧ zKn (zUG G) ((zGW G).2.2 (P.2.1 k) i) := by
    intro i hi
    have hl : (G.2.1 (P.2.1 k) 0).toNat + i < G.2.2.1 := by omega
    exact ⟨hw.2.2.2.1 _ hl, zKn_G hw hl⟩
  have hs0 : zLo (P.2.2.1 k, 0, P.2.2.2.2.2 k) 0 := ⟨hvb, Nat.le_refl _, fun i hi => by have hi : i < 0 := hi; omega⟩
  have hsl := zps_b hw hb hvb
  have hE := w4
  unfold zWE at hE
  have hob := fun j hj => (ho.2.2.2 j hj).1.2
  have hvs := he.1.v hw
  have hpr : zpr G P k = zpe G P k (zps G P k) (G.2.1 (P.2.1 k)) := rfl
  refine zx_met zk_80 (Or.inr ⟨_, _, rfl, rfl⟩) (Nat.le_of_ble_eq_true rfl) (fun x => Nat.beq x 97 || Nat.beq x 111 || Nat.beq x 120 || Nat.beq x 146) 1000 (fun m j L S h2 => (j = 7 ∧ S = [] ∧ ∃ (k7 : Nat) (q4 q5 q6 : Option zV), L = [some (.inr (.inr 81)), some (.inl (k : Int)), some (.inl (P.2.1 k : Int)), some (.inl (k7 : Int)), q4, q5, q6] ∧ k7 ≤ 6 ∧ m = 1000 + 6 - k7 ∧ zF (zMj k) h h2 ∧ ∀ v, 0 ≤ v → v < (k7 : Int) → h2 95 v = P.2.2.1 k v) ∨
    (j = 31 ∧ S = [] ∧ ∃ (i7 : Nat) (q4 q5 q6 : Option zV), L = [some (.inr (.inr 81)), some (.inl (k : Int)), some (.inl (P.2.1 k : Int)), some (.inl (i7 : Int)), q4, q5, q6] ∧ i7 ≤ c ∧ m = 100 + c - i7 ∧ zF (zMj k) h h2 ∧ zKm h2 k (zlvs (zUG G) ((zGW G).2.2 (P.2.1 k)) i7 (P.2.2.1 k, 0, P.2.2.2.2.2 k))) ∨
    (j = 97 ∧ S = [] ∧ ∃ (b5 f6 : Int), L = [some (.inr (.inr 81)), some (.inl (k : Int)), some (.inl (P.2.1 k : Int)), some (.inl ((G.2.1 (P.2.1 k)) 2)), some (.inl ((G.2.1 (P.2.1 k)) 5)), some (.inl b5), some (.inl f6)] ∧ m = 50 ∧ zF (zMk k) h h2 ∧ zKm h2 k (zps G P k) ∧ zM5 G (zps G P k) (G.2.1 (P.2.1 k)) b5 f6) ∨
    (j = 111 ∧ S = [] ∧ ∃ (b5 f6 : Int), L = [some (.inr (.inr 81)), some (.inl (k : Int)), some (.inl (P.2.1 k : Int)), some (.inl ((G.2.1 (P.2.1 k)) 2)), some (.inl ((G.2.1 (P.2.1 k)) 5)), some (.inl b5), some (.inl f6)] ∧ m = 40 ∧ zF (zMk k) h h2 ∧ zKm h2 k (zps G P k) ∧ zM5 G (zps G P k) (G.2.1 (P.2.1 k)) b5 f6 ∧ h2 89 (k : Int) = (if (G.2.1 (P.2.1 k)) 2 = 2 then 2 else if b5 = 0 then 0 else 1)) ∨
    (j = 120 ∧ S = [] ∧ ∃ (b5 f6 : Int), L = [some (.inr (.inr 81)), some (.inl (k : Int)), some (.inl (P.2.1 k : Int)), some (.inl ((G.2.1 (P.2.1 k)) 2)), some (.inl ((G.2.1 (P.2.1 k)) 5)), some (.inl b5), some (.inl f6)] ∧ m = 30 ∧ zF (zMk k) h h2 ∧ zKm h2 k (zps G P k) ∧ zM5 G (zps G P k) (G.2.1 (P.2.1 k)) b5 f6 ∧ h2 89 (k : Int) = (if (G.2.1 (P.2.1 k)) 2 = 2 then 2 else if b5 = 0 then 0 else 1) ∧ h2 92 (k : Int) = (if b5 = 0 then -4 else (G.2.1 (P.2.1 k)) 5)) ∨
    (j = 146 ∧ S = [] ∧ ∃ (b5 f6 : Int), L = [some (.inr (.inr 81)), some (.inl (k : Int)), some (.inl (P.2.1 k : Int)), some (.inl ((G.2.1 (P.2.1 k)) 2)), some (.inl ((G.2.1 (P.2.1 k)) 5)), some (.inl b5), some (.inl f6)] ∧ m = 20 ∧ zF zMq h h2 ∧ zKm h2 k (zps G P k) ∧ zM5 G (zps G P k) (G.2.1 (P.2.1 k)) b5 f6 ∧ h2 89 (k : Int) = (if (G.2.1 (P.2.1 k)) 2 = 2 then 2 else if b5 = 0 then 0 else 1) ∧ h2 92 (k : Int) = (if b5 = 0 then -4 else (G.2.1 (P.2.1 k)) 5) ∧ zEm h2 G ∧ (((G.2.1 (P.2.1 k)) 2 = 2 ∧ zHm h2 P k ∧ h2 90 (k : Int) = -4 ∧ h2 81 16 = h 81 16) ∨ (¬ (G.2.1 (P.2.1 k)) 2 = 2 ∧ zHm h2 (zm1 G P k (zps G P k) (zt5 (zps G P k) (G.2.1 (P.2.1 k)) b5)).1 k ∧ ((zm1 G P k (zps G P k) (zt5 (zps G P k) (G.2.1 (P.2.1 k)) b5)).2.2 = false → h2 90 (k : Int) = ((zm1 G P k (zps G P k) (zt5 (zps G P k) (G.2.1 (P.2.1 k)) b5)).2.1 : Int) ∧ h2 81 16 = h 81 16) ∧ ((zm1 G P k (zps G P k) (zt5 (zps G P k) (G.2.1 (P.2.1 k)) b5)).2.2 = true → h2 81 16 = 1))))) (fun hok hM => ?_) (fun hok hM => ?_)
  · refine And.intro (by first | (show 0 ≤ _ ∧ _ < (40 : Int); omega) | (show 0 ≤ _ ∧ _ < (240 : Int); omega) | (show 0 ≤ _ ∧ _ < (6 : Int); omega) | (show 0 ≤ _ ∧ _ < (708 : Int); omega) | (show 0 ≤ _ ∧ _ < (4800 : Int); omega) | (show 0 ≤ _ ∧ _ < (8 : Int); omega)) ?_
    rw [hk1]
    exact ⟨_, Or.inl ⟨rfl, rfl, 0, _, _, _, rfl, by omega, rfl, zF.rf, fun v h0 h1 => by omega⟩⟩
  · rintro n0 i0 L S h2 hM2 (hI | hI | hI | hI | hI | hI)
    · obtain ⟨rfl, rfl, k7, q4, q5, q6, rfl, hk7, hm, hF, hv⟩ := hI
      constructor
      · intro c1
        refine And.intro (by omega) ?_
        refine And.intro (by omega) ?_
        refine And.intro (by first | (show 0 ≤ _ ∧ _ < (40 : Int); omega) | (show 0 ≤ _ ∧ _ < (240 : Int); omega) | (show 0 ≤ _ ∧ _ < (6 : Int); omega) | (show 0 ≤ _ ∧ _ < (708 : Int); omega) | (show 0 ≤ _ ∧ _ < (4800 : Int); omega) | (show 0 ≤ _ ∧ _ < (8 : Int); omega)) ?_
        refine And.intro (by first | (show 0 ≤ _ ∧ _ < (40 : Int); omega) | (show 0 ≤ _ ∧ _ < (240 : Int); omega) | (show 0 ≤ _ ∧ _ < (6 : Int); omega) | (show 0 ≤ _ ∧ _ < (708 : Int); omega) | (show 0 ≤ _ ∧ _ < (4800 : Int); omega) | (show 0 ≤ _ ∧ _ < (8 : Int); omega)) ?_
        refine And.intro (by omega) ?_
        refine ⟨1000 + 6 - (k7 + 1), by omega, Or.inl ⟨rfl, rfl, k7 + 1, _, _, _, rfl, by omega, rfl, hF.st rfl, zfill hv ?_⟩⟩
        exact (hF _ _ rfl).trans (hk3 _ (by omega) (by omega))
      · intro c1
        refine And.intro (by first | (show 0 ≤ _ ∧ _ < (40 : Int); omega) | (show 0 ≤ _ ∧ _ < (240 : Int); omega) | (show 0 ≤ _ ∧ _ < (6 : Int); omega) | (show 0 ≤ _ ∧ _ < (708 : Int); omega) | (show 0 ≤ _ ∧ _ < (4800 : Int); omega) | (show 0 ≤ _ ∧ _ < (8 : Int); omega)) ?_
        first
        | (have k6 : k7 = 6 := by omega
           subst k6
           exact ⟨100 + c - 0, by omega, Or.inr (Or.inl ⟨rfl, rfl, 0, _, _, _, rfl, by omega, rfl, hF.st zMj_93, zst_eq _ _ _ _, (fun i w hi hw => by have hi : i < 0 := hi; omega), hv⟩)⟩)
        | (exact ⟨100 + c - (i7 + 1), by omega, Or.inr (Or.inl ⟨rfl, rfl, i7 + 1, _, _, _, rfl, by omega, rfl, hF.tr hG, hp3⟩)⟩)
    · obtain ⟨rfl, rfl, i7, q4, q5, q6, rfl, hi, hm, hF, hp⟩ := hI
      have hlo := zlvs_b (u := zUG G) hs0 i7 (fun i hi => hTi i (by omega))
      have hv2 := hvs.fr (h2 := h2) (fun _ => hF _ _ rfl)
      have e0 : h2 82 (120 + (P.2.1 k : Int)) = (f : Int) := by
        have := (he.1.fr (h2 := h2) (fun _ => hF _ _ rfl)).2.2.1 _ 0 hb (by omega)
        rw [show (0 : Int) + (120 + 8 * ((0 : Nat) : Int) + (P.2.1 k : Int)) = 120 + (P.2.1 k : Int) by omega] at this
        exact this.trans hf.symm
      have e1 : h2 82 (128 + (P.2.1 k : Int)) = G.2.1 (P.2.1 k) 1 := hv2.at hb 1 (by omega) (by omega) (by omega)
      have e2 : h2 82 (136 + (P.2.1 k : Int)) = G.2.1 (P.2.1 k) 2 := hv2.at hb 2 (by omega) (by omega) (by omega)
      have e5 : h2 82 (160 + (P.2.1 k : Int)) = G.2.1 (P.2.1 k) 5 := hv2.at hb 5 (by omega) (by omega) (by omega)
      have he2 := he.fr (h2 := h2) (fun _ => hF _ _ rfl) (fun _ => hF _ _ rfl) (hF _ _ rfl)
      have e12 := he2.2.1
      refine And.intro (by omega) ?_
      refine And.intro (by first | (show 0 ≤ _ ∧ _ < (40 : Int); omega) | (show 0 ≤ _ ∧ _ < (240 : Int); omega) | (show 0 ≤ _ ∧ _ < (6 : Int); omega) | (show 0 ≤ _ ∧ _ < (708 : Int); omega) | (show 0 ≤ _ ∧ _ < (4800 : Int); omega) | (show 0 ≤ _ ∧ _ < (8 : Int); omega)) ?_
      constructor
      · intro c2
        refine And.intro (by omega) ?_
        refine And.intro (by first | (show 0 ≤ _ ∧ _ < (40 : Int); omega) | (show 0 ≤ _ ∧ _ < (240 : Int); omega) | (show 0 ≤ _ ∧ _ < (6 : Int); omega) | (show 0 ≤ _ ∧ _ < (708 : Int); omega) | (show 0 ≤ _ ∧ _ < (4800 : Int); omega) | (show 0 ≤ _ ∧ _ < (8 : Int); omega)) ?_
        refine And.intro (by omega) ?_
        have hil : (G.2.1 (P.2.1 k) 0).toNat + i7 < G.2.2.1 := by omega
        refine s_79 he2 hw hil (by omega) (by omega) hp hlo (by omega) (fun h3 hG hp3 => ?_)
        refine And.intro (by omega) ?_
        first
        | (have k6 : k7 = 6 := by omega
           subst k6
           exact ⟨100 + c - 0, by omega, Or.inr (Or.inl ⟨rfl, rfl, 0, _, _, _, rfl, by omega, rfl, hF.st zMj_93, zst_eq _ _ _ _, (fun i w hi hw => by have hi : i < 0 := hi; omega), hv⟩)⟩)
        | (exact ⟨100 + c - (i7 + 1), by omega, Or.inr (Or.inl ⟨rfl, rfl, i7 + 1, _, _, _, rfl, by omega, rfl, hF.tr hG, hp3⟩)⟩)
      · intro c2
        have hic : i7 = c := by omega
        subst hic
        have hz : zps G P k = zlvs (zUG G) ((zGW G).2.2 (P.2.1 k)) i7 (P.2.2.1 k, 0, P.2.2.2.2.2 k) := by unfold zps; rw [hct]
        rw [← hz] at hp
        have p3 := hp.2.2
        have hbit : G.2.1 (P.2.1 k) 2 = 1 → (zx_and (zx_shr (h2 81 12) (h2 82 (160 + (P.2.1 k : Int)))) 1 = 0 ↔ Nat.testBit (zUG G) (G.2.1 (P.2.1 k) 5).toNat = false) := by
          intro q
          have hz := zB_bit _ hu (G.2.1 (P.2.1 k) 5).toNat (by omega)
          rw [Int.toNat_of_nonneg (by omega)] at hz
          rw [e12, e5]
          exact hz
        have h01 := zand1 (zx_shr (h2 81 12) (h2 82 (160 + (P.2.1 k : Int))))
        refine And.intro (by omega) ?_
        refine And.intro (by first | (show 0 ≤ _ ∧ _ < (40 : Int); omega) | (show 0 ≤ _ ∧ _ < (240 : Int); omega) | (show 0 ≤ _ ∧ _ < (6 : Int); omega) | (show 0 ≤ _ ∧ _ < (708 : Int); omega) | (show 0 ≤ _ ∧ _ < (4800 : Int); omega) | (show 0 ≤ _ ∧ _ < (8 : Int); omega)) ?_
        refine And.intro (by omega) ?_
        refine And.intro (by first | (show 0 ≤ _ ∧ _ < (40 : Int); omega) | (show 0 ≤ _ ∧ _ < (240 : Int); omega) | (show 0 ≤ _ ∧ _ < (6 : Int); omega) | (show 0 ≤ _ ∧ _ < (708 : Int); omega) | (show 0 ≤ _ ∧ _ < (4800 : Int); omega) | (show 0 ≤ _ ∧ _ < (8 : Int); omega)) ?_
        constructor
        · intro c3
          constructor
          · intro c4
            constructor
            · intro c5
              rw [e2, e5]
              refine ⟨50, by omega, Or.inr (Or.inr (Or.inl ⟨rfl, rfl, _, _, rfl, rfl, zMk_J hF, hp, ?_⟩))⟩
              unfold zM5
              first
              | (exfalso; omega)
              | (left; exact ⟨by omega, rfl, rfl⟩)
              | (right; left
                 refine ⟨by omega, ?_, rfl, rfl⟩
                 cases q : Nat.testBit (zUG G) (G.2.1 (P.2.1 k) 5).toNat
                 · have := (hbit (by omega)).mpr q
                   omega
                 · rfl)
              | (right; right
                 refine ⟨by omega, ?_, rfl, ?_⟩
                 · rintro ⟨q1, q2⟩
                   first
                   | omega
                   | (have q3 := (hbit q1).mp (by omega)
                      rw [q3] at q2
                      cases q2)
                 · first
                   | (left; exact ⟨rfl, by omega⟩)
                   | (have q5 := p3 (G.2.1 (P.2.1 k) 5) (by omega) (by omega)
                      rw [← e5] at q5
                      rw [← e5]
                      first
                      | (left; exact ⟨rfl, by omega⟩)
                      | (right; exact ⟨rfl, by omega⟩)))
            · intro c5
              constructor
              · intro c6
                refine And.intro (fun c => absurd c (by decide)) (fun _ => ?_)
                rw [e2, e5]
                refine ⟨50, by omega, Or.inr (Or.inr (Or.inl ⟨rfl, rfl, _, _, rfl, rfl, zMk_J hF, hp, ?_⟩))⟩
                unfold zM5
                first
                | (exfalso; omega)
                | (left; exact ⟨by omega, rfl, rfl⟩)
                | (right; left
                   refine ⟨by omega, ?_, rfl, rfl⟩
                   cases q : Nat.testBit (zUG G) (G.2.1 (P.2.1 k) 5).toNat
                   · have := (hbit (by omega)).mpr q
                     omega
                   · rfl)
                | (right; right
                   refine ⟨by omega, ?_, rfl, ?_⟩
                   · rintro ⟨q1, q2⟩
                     first
                     | omega
                     | (have q3 := (hbit q1).mp (by omega)
                        rw [q3] at q2
                        cases q2)
                   · first
                     | (left; exact ⟨rfl, by omega⟩)
                     | (have q5 := p3 (G.2.1 (P.2.1 k) 5) (by omega) (by omega)
                        rw [← e5] at q5
                        rw [← e5]
                        first
                        | (left; exact ⟨rfl, by omega⟩)
                        | (right; exact ⟨rfl, by omega⟩)))
              · intro c6
                rw [e2, e5]
                refine ⟨50, by omega, Or.inr (Or.inr (Or.inl ⟨rfl, rfl, _, _, rfl, rfl, zMk_J hF, hp, ?_⟩))⟩
                unfold zM5
                first
                | (exfalso; omega)
                | (left; exact ⟨by omega, rfl, rfl⟩)
                | (right; left
                   refine ⟨by omega, ?_, rfl, rfl⟩
                   cases q : Nat.testBit (zUG G) (G.2.1 (P.2.1 k) 5).toNat
                   · have := (hbit (by omega)).mpr q
                     omega
                   · rfl)
                | (right; right
                   refine ⟨by omega, ?_, rfl, ?_⟩
                   · rintro ⟨q1, q2⟩
                     first
                     | omega
                     | (have q3 := (hbit q1).mp (by omega)
                        rw [q3] at q2
                        cases q2)
                   · first
                     | (left; exact ⟨rfl, by omega⟩)
                     | (have q5 := p3 (G.2.1 (P.2.1 k) 5) (by omega) (by omega)
                        rw [← e5] at q5
                        rw [← e5]
                        first
                        | (left; exact ⟨rfl, by omega⟩)
                        | (right; exact ⟨rfl, by omega⟩)))
          · intro c4
            constructor
            · intro c7
              rw [e2, e5]
              refine ⟨50, by omega, Or.inr (Or.inr (Or.inl ⟨rfl, rfl, _, _, rfl, rfl, zMk_J hF, hp, ?_⟩))⟩
              unfold zM5
              first
              | (exfalso; omega)
              | (left; exact ⟨by omega, rfl, rfl⟩)
              | (right; left
                 refine ⟨by omega, ?_, rfl, rfl⟩
                 cases q : Nat.testBit (zUG G) (G.2.1 (P.2.1 k) 5).toNat
                 · have := (hbit (by omega)).mpr q
                   omega
                 · rfl)
              | (right; right
                 refine ⟨by omega, ?_, rfl, ?_⟩
                 · rintro ⟨q1, q2⟩
                   first
                   | omega
                   | (have q3 := (hbit q1).mp (by omega)
                      rw [q3] at q2
                      cases q2)
                 · first
                   | (left; exact ⟨rfl, by omega⟩)
                   | (have q5 := p3 (G.2.1 (P.2.1 k) 5) (by omega) (by omega)
                      rw [← e5] at q5
                      rw [← e5]
                      first
                      | (left; exact ⟨rfl, by omega⟩)
                      | (right; exact ⟨rfl, by omega⟩)))
            · intro c7
              constructor
              · intro c8
                refine And.intro (fun _ => ?_) (fun c => absurd (by decide) c)
                refine And.intro (by first | (show 0 ≤ _ ∧ _ < (40 : Int); omega) | (show 0 ≤ _ ∧ _ < (240 : Int); omega) | (show 0 ≤ _ ∧ _ < (6 : Int); omega) | (show 0 ≤ _ ∧ _ < (708 : Int); omega) | (show 0 ≤ _ ∧ _ < (4800 : Int); omega) | (show 0 ≤ _ ∧ _ < (8 : Int); omega)) ?_
                constructor
                · intro c9
                  rw [e2, e5]
                  refine ⟨50, by omega, Or.inr (Or.inr (Or.inl ⟨rfl, rfl, _, _, rfl, rfl, zMk_J hF, hp, ?_⟩))⟩
                  unfold zM5
                  first
                  | (exfalso; omega)
                  | (left; exact ⟨by omega, rfl, rfl⟩)
                  | (right; left
                     refine ⟨by omega, ?_, rfl, rfl⟩
                     cases q : Nat.testBit (zUG G) (G.2.1 (P.2.1 k) 5).toNat
                     · have := (hbit (by omega)).mpr q
                       omega
                     · rfl)
                  | (right; right
                     refine ⟨by omega, ?_, rfl, ?_⟩
                     · rintro ⟨q1, q2⟩
                       first
                       | omega
                       | (have q3 := (hbit q1).mp (by omega)
                          rw [q3] at q2
                          cases q2)
                     · first
                       | (left; exact ⟨rfl, by omega⟩)
                       | (have q5 := p3 (G.2.1 (P.2.1 k) 5) (by omega) (by omega)
                          rw [← e5] at q5
                          rw [← e5]
                          first
                          | (left; exact ⟨rfl, by omega⟩)
                          | (right; exact ⟨rfl, by omega⟩)))
                · intro c9
                  rw [e2, e5]
                  refine ⟨50, by omega, Or.inr (Or.inr (Or.inl ⟨rfl, rfl, _, _, rfl, rfl, zMk_J hF, hp, ?_⟩))⟩
                  unfold zM5
                  first
                  | (exfalso; omega)
                  | (left; exact ⟨by omega, rfl, rfl⟩)
                  | (right; left
                     refine ⟨by omega, ?_, rfl, rfl⟩
                     cases q : Nat.testBit (zUG G) (G.2.1 (P.2.1 k) 5).toNat
                     · have := (hbit (by omega)).mpr q
                       omega
                     · rfl)
                  | (right; right
                     refine ⟨by omega, ?_, rfl, ?_⟩
                     · rintro ⟨q1, q2⟩
                       first
                       | omega
                       | (have q3 := (hbit q1).mp (by omega)
                          rw [q3] at q2
                          cases q2)
                     · first
                       | (left; exact ⟨rfl, by omega⟩)
                       | (have q5 := p3 (G.2.1 (P.2.1 k) 5) (by omega) (by omega)
                          rw [← e5] at q5
                          rw [← e5]
                          first
                          | (left; exact ⟨rfl, by omega⟩)
                          | (right; exact ⟨rfl, by omega⟩)))
              · intro c8
                rw [e2, e5]
                refine ⟨50, by omega, Or.inr (Or.inr (Or.inl ⟨rfl, rfl, _, _, rfl, rfl, zMk_J hF, hp, ?_⟩))⟩
                unfold zM5
                first
                | (exfalso; omega)
                | (left; exact ⟨by omega, rfl, rfl⟩)
                | (right; left
                   refine ⟨by omega, ?_, rfl, rfl⟩
                   cases q : Nat.testBit (zUG G) (G.2.1 (P.2.1 k) 5).toNat
                   · have := (hbit (by omega)).mpr q
                     omega
                   · rfl)
                | (right; right
                   refine ⟨by omega, ?_, rfl, ?_⟩
                   · rintro ⟨q1, q2⟩
                     first
                     | omega
                     | (have q3 := (hbit q1).mp (by omega)
                        rw [q3] at q2
                        cases q2)
                   · first
                     | (left; exact ⟨rfl, by omega⟩)
                     | (have q5 := p3 (G.2.1 (P.2.1 k) 5) (by omega) (by omega)
                        rw [← e5] at q5
                        rw [← e5]
                        first
                        | (left; exact ⟨rfl, by omega⟩)
                        | (right; exact ⟨rfl, by omega⟩)))
        · intro c3
          constructor
          · intro c10
            rw [e2, e5]
            refine ⟨50, by omega, Or.inr (Or.inr (Or.inl ⟨rfl, rfl, _, _, rfl, rfl, zMk_J hF, hp, ?_⟩))⟩
            unfold zM5
            first
            | (exfalso; omega)
            | (left; exact ⟨by omega, rfl, rfl⟩)
            | (right; left
               refine ⟨by omega, ?_, rfl, rfl⟩
               cases q : Nat.testBit (zUG G) (G.2.1 (P.2.1 k) 5).toNat
               · have := (hbit (by omega)).mpr q
                 omega
               · rfl)
            | (right; right
               refine ⟨by omega, ?_, rfl, ?_⟩
               · rintro ⟨q1, q2⟩
                 first
                 | omega
                 | (have q3 := (hbit q1).mp (by omega)
                    rw [q3] at q2
                    cases q2)
               · first
                 | (left; exact ⟨rfl, by omega⟩)
                 | (have q5 := p3 (G.2.1 (P.2.1 k) 5) (by omega) (by omega)
                    rw [← e5] at q5
                    rw [← e5]
                    first
                    | (left; exact ⟨rfl, by omega⟩)
                    | (right; exact ⟨rfl, by omega⟩)))
          · intro c10
            constructor
            · intro c11
              refine And.intro (fun _ => ?_) (fun c => absurd (by decide) c)
              refine And.intro (by first | (show 0 ≤ _ ∧ _ < (40 : Int); omega) | (show 0 ≤ _ ∧ _ < (240 : Int); omega) | (show 0 ≤ _ ∧ _ < (6 : Int); omega) | (show 0 ≤ _ ∧ _ < (708 : Int); omega) | (show 0 ≤ _ ∧ _ < (4800 : Int); omega) | (show 0 ≤ _ ∧ _ < (8 : Int); omega)) ?_
              constructor
              · intro c12
                rw [e2, e5]
                refine ⟨50, by omega, Or.inr (Or.inr (Or.inl ⟨rfl, rfl, _, _, rfl, rfl, zMk_J hF, hp, ?_⟩))⟩
                unfold zM5
                first
                | (exfalso; omega)
                | (left; exact ⟨by omega, rfl, rfl⟩)
                | (right; left
                   refine ⟨by omega, ?_, rfl, rfl⟩
                   cases q : Nat.testBit (zUG G) (G.2.1 (P.2.1 k) 5).toNat
                   · have := (hbit (by omega)).mpr q
                     omega
                   · rfl)
                | (right; right
                   refine ⟨by omega, ?_, rfl, ?_⟩
                   · rintro ⟨q1, q2⟩
                     first
                     | omega
                     | (have q3 := (hbit q1).mp (by omega)
                        rw [q3] at q2
                        cases q2)
                   · first
                     | (left; exact ⟨rfl, by omega⟩)
                     | (have q5 := p3 (G.2.1 (P.2.1 k) 5) (by omega) (by omega)
                        rw [← e5] at q5
                        rw [← e5]
                        first
                        | (left; exact ⟨rfl, by omega⟩)
                        | (right; exact ⟨rfl, by omega⟩)))
              · intro c12
                rw [e2, e5]
                refine ⟨50, by omega, Or.inr (Or.inr (Or.inl ⟨rfl, rfl, _, _, rfl, rfl, zMk_J hF, hp, ?_⟩))⟩
                unfold zM5
                first
                | (exfalso; omega)
                | (left; exact ⟨by omega, rfl, rfl⟩)
                | (right; left
                   refine ⟨by omega, ?_, rfl, rfl⟩
                   cases q : Nat.testBit (zUG G) (G.2.1 (P.2.1 k) 5).toNat
                   · have := (hbit (by omega)).mpr q
                     omega
                   · rfl)
                | (right; right
                   refine ⟨by omega, ?_, rfl, ?_⟩
                   · rintro ⟨q1, q2⟩
                     first
                     | omega
                     | (have q3 := (hbit q1).mp (by omega)
                        rw [q3] at q2
                        cases q2)
                   · first
                     | (left; exact ⟨rfl, by omega⟩)
                     | (have q5 := p3 (G.2.1 (P.2.1 k) 5) (by omega) (by omega)
                        rw [← e5] at q5
                        rw [← e5]
                        first
                        | (left; exact ⟨rfl, by omega⟩)
                        | (right; exact ⟨rfl, by omega⟩)))
            · intro c11
              rw [e2, e5]
              refine ⟨50, by omega, Or.inr (Or.inr (Or.inl ⟨rfl, rfl, _, _, rfl, rfl, zMk_J hF, hp, ?_⟩))⟩
              unfold zM5
              first
              | (exfalso; omega)
              | (left; exact ⟨by omega, rfl, rfl⟩)
              | (right; left
                 refine ⟨by omega, ?_, rfl, rfl⟩
                 cases q : Nat.testBit (zUG G) (G.2.1 (P.2.1 k) 5).toNat
                 · have := (hbit (by omega)).mpr q
                   omega
                 · rfl)
              | (right; right
                 refine ⟨by omega, ?_, rfl, ?_⟩
                 · rintro ⟨q1, q2⟩
                   first
                   | omega
                   | (have q3 := (hbit q1).mp (by omega)
                      rw [q3] at q2
                      cases q2)
                 · first
                   | (left; exact ⟨rfl, by omega⟩)
                   | (have q5 := p3 (G.2.1 (P.2.1 k) 5) (by omega) (by omega)
                      rw [← e5] at q5
                      rw [← e5]
                      first
                      | (left; exact ⟨rfl, by omega⟩)
                      | (right; exact ⟨rfl, by omega⟩)))
    · obtain ⟨rfl, rfl, b5, f6, rfl, hm, hF, hp, hr⟩ := hI
      have hr2 := hr
      unfold zM5 at hr2
      constructor
      · intro c13
        refine And.intro (by first | (show 0 ≤ _ ∧ _ < (40 : Int); omega) | (show 0 ≤ _ ∧ _ < (240 : Int); omega) | (show 0 ≤ _ ∧ _ < (6 : Int); omega) | (show 0 ≤ _ ∧ _ < (708 : Int); omega) | (show 0 ≤ _ ∧ _ < (4800 : Int); omega) | (show 0 ≤ _ ∧ _ < (8 : Int); omega)) ?_
        refine ⟨40, by omega, Or.inr (Or.inr (Or.inr (Or.inl ⟨rfl, rfl, _, _, rfl, rfl, hF.st (zMk_r (by omega) (by omega)), hp.st (by omega) _ _, hr, ?_⟩)))⟩
        rw [zst_eq]
        first
        | (rw [if_pos (by omega)])
        | (rw [if_neg (by omega), if_pos (by omega)])
        | (rw [if_neg (by omega), if_neg (by omega)])
      · intro c13
        constructor
        · intro c14
          refine And.intro (by first | (show 0 ≤ _ ∧ _ < (40 : Int); omega) | (show 0 ≤ _ ∧ _ < (240 : Int); omega) | (show 0 ≤ _ ∧ _ < (6 : Int); omega) | (show 0 ≤ _ ∧ _ < (708 : Int); omega) | (show 0 ≤ _ ∧ _ < (4800 : Int); omega) | (show 0 ≤ _ ∧ _ < (8 : Int); omega)) ?_
          refine ⟨40, by omega, Or.inr (Or.inr (Or.inr (Or.inl ⟨rfl, rfl, _, _, rfl, rfl, hF.st (zMk_r (by omega) (by omega)), hp.st (by omega) _ _, hr, ?_⟩)))⟩
          rw [zst_eq]
          first
          | (rw [if_pos (by omega)])
          | (rw [if_neg (by omega), if_pos (by omega)])
          | (rw [if_neg (by omega), if_neg (by omega)])
        · intro c14
          refine And.intro (by first | (show 0 ≤ _ ∧ _ < (40 : Int); omega) | (show 0 ≤ _ ∧ _ < (240 : Int); omega) | (show 0 ≤ _ ∧ _ < (6 : Int); omega) | (show 0 ≤ _ ∧ _ < (708 : Int); omega) | (show 0 ≤ _ ∧ _ < (4800 : Int); omega) | (show 0 ≤ _ ∧ _ < (8 : Int); omega)) ?_
          refine ⟨40, by omega, Or.inr (Or.inr (Or.inr (Or.inl ⟨rfl, rfl, _, _, rfl, rfl, hF.st (zMk_r (by omega) (by omega)), hp.st (by omega) _ _, hr, ?_⟩)))⟩
          rw [zst_eq]
          first
          | (rw [if_pos (by omega)])
          | (rw [if_neg (by omega), if_pos (by omega)])
          | (rw [if_neg (by omega), if_neg (by omega)])
    · obtain ⟨rfl, rfl, b5, f6, rfl, hm, hF, hp, hr, e89⟩ := hI
      have hr2 := hr
      unfold zM5 at hr2
      constructor
      · intro c15
        refine And.intro (by first | (show 0 ≤ _ ∧ _ < (40 : Int); omega) | (show 0 ≤ _ ∧ _ < (240 : Int); omega) | (show 0 ≤ _ ∧ _ < (6 : Int); omega) | (show 0 ≤ _ ∧ _ < (708 : Int); omega) | (show 0 ≤ _ ∧ _ < (4800 : Int); omega) | (show 0 ≤ _ ∧ _ < (8 : Int); omega)) ?_
        refine ⟨30, by omega, Or.inr (Or.inr (Or.inr (Or.inr (Or.inl ⟨rfl, rfl, _, _, rfl, rfl, hF.st (zMk_r (by omega) (by omega)), hp.st (by omega) _ _, hr, ?_, ?_⟩))))⟩
        · rw [zst_nr (by omega)]; exact e89
        · rw [zst_eq]
          first
          | (rw [if_pos (by omega)])
          | (rw [if_neg (by omega)])
      · intro c15
        refine And.intro (by first | (show 0 ≤ _ ∧ _ < (40 : Int); omega) | (show 0 ≤ _ ∧ _ < (240 : Int); omega) | (show 0 ≤ _ ∧ _ < (6 : Int); omega) | (show 0 ≤ _ ∧ _ < (708 : Int); omega) | (show 0 ≤ _ ∧ _ < (4800 : Int); omega) | (show 0 ≤ _ ∧ _ < (8 : Int); omega)) ?_
        refine ⟨30, by omega, Or.inr (Or.inr (Or.inr (Or.inr (Or.inl ⟨rfl, rfl, _, _, rfl, rfl, hF.st (zMk_r (by omega) (by omega)), hp.st (by omega) _ _, hr, ?_, ?_⟩))))⟩
        · rw [zst_nr (by omega)]; exact e89
        · rw [zst_eq]
          first
          | (rw [if_pos (by omega)])
          | (rw [if_neg (by omega)])
    · obtain ⟨rfl, rfl, b5, f6, rfl, hm, hF, hp, hr, e89, e92⟩ := hI
      have hr2 := hr
      unfold zM5 at hr2
      have he2 := he.Q (zMq_K hF)
      have hv2 := hvs.fr (h2 := h2) (fun _ => (zMq_K hF) _ _ rfl)
      have e3 : h2 82 (144 + (P.2.1 k : Int)) = G.2.1 (P.2.1 k) 3 := hv2.at hb 3 (by omega) (by omega) (by omega)
      have e4 : h2 82 (152 + (P.2.1 k : Int)) = G.2.1 (P.2.1 k) 4 := hv2.at hb 4 (by omega) (by omega) (by omega)
      have hh2 := hh.K hob hF
      constructor
      · intro c16
        refine And.intro (by first | (show 0 ≤ _ ∧ _ < (40 : Int); omega) | (show 0 ≤ _ ∧ _ < (240 : Int); omega) | (show 0 ≤ _ ∧ _ < (6 : Int); omega) | (show 0 ≤ _ ∧ _ < (708 : Int); omega) | (show 0 ≤ _ ∧ _ < (4800 : Int); omega) | (show 0 ≤ _ ∧ _ < (8 : Int); omega)) ?_
        first
        | (refine ⟨20, by omega, Or.inr (Or.inr (Or.inr (Or.inr (Or.inr ⟨rfl, rfl, _, _, rfl, rfl, (zMq_K hF).st rfl, hp.st (by omega) _ _, hr, ?_, ?_, he2.st (by omega) _ _, Or.inl ⟨by omega, hh2.st (by omega) (by omega) _, zst_eq _ _ _ _, (hF _ _ rfl)⟩⟩))))⟩
           · rw [zst_nr (by omega)]; exact e89
           · rw [zst_nr (by omega)]; exact e92)
        | (refine ⟨20, by omega, Or.inr (Or.inr (Or.inr (Or.inr (Or.inr ⟨rfl, rfl, _, _, rfl, rfl, ((zMq_K hF).tr (zMq_Y hG)).st rfl, (hp.Y hG).st (by omega) _ _, hr, ?_, ?_, (he2.Y hG).st (by omega) _ _, Or.inr ⟨by omega, hh3.st (by omega) (by omega) _, fun q => ?_, fun q => hx1 q⟩⟩))))⟩
           · rw [zst_nr (by omega)]; exact (hG _ _ rfl).trans e89
           · rw [zst_nr (by omega)]; exact (hG _ _ rfl).trans e92
           · obtain ⟨y1, y2⟩ := hx0 q
             exact ⟨(zst_eq _ _ _ _).trans y1, y2.trans (hF _ _ rfl)⟩)
      · intro c16
        constructor
        · intro c17
          refine And.intro (by omega) ?_
          refine And.intro (by first | (show 0 ≤ _ ∧ _ < (40 : Int); omega) | (show 0 ≤ _ ∧ _ < (240 : Int); omega) | (show 0 ≤ _ ∧ _ < (6 : Int); omega) | (show 0 ≤ _ ∧ _ < (708 : Int); omega) | (show 0 ≤ _ ∧ _ < (4800 : Int); omega) | (show 0 ≤ _ ∧ _ < (8 : Int); omega)) ?_
          have hbt : zt5 (zps G P k) (G.2.1 (P.2.1 k)) b5 < G.1 := by
            unfold zt5
            split
            · omega
            · split <;> omega
          refine s_75m he2 hw hh2 h40 hp.2.2 hbt (by
            unfold zt5
            rcases hr2 with hr2 | hr2 | ⟨z1, z2, z3, z4⟩
            · omega
            · rw [if_pos hr2.2.2.1]; omega
            · rw [if_neg (by omega)]
              rcases z4 with z4 | z4
              · rw [if_pos z4.2]; omega
              · rw [if_neg z4.2]; omega) (fun h3 y hG hh3 hx0 hx1 => ?_)
          refine And.intro (by first | (show 0 ≤ _ ∧ _ < (40 : Int); omega) | (show 0 ≤ _ ∧ _ < (240 : Int); omega) | (show 0 ≤ _ ∧ _ < (6 : Int); omega) | (show 0 ≤ _ ∧ _ < (708 : Int); omega) | (show 0 ≤ _ ∧ _ < (4800 : Int); omega) | (show 0 ≤ _ ∧ _ < (8 : Int); omega)) ?_
          first
          | (refine ⟨20, by omega, Or.inr (Or.inr (Or.inr (Or.inr (Or.inr ⟨rfl, rfl, _, _, rfl, rfl, (zMq_K hF).st rfl, hp.st (by omega) _ _, hr, ?_, ?_, he2.st (by omega) _ _, Or.inl ⟨by omega, hh2.st (by omega) (by omega) _, zst_eq _ _ _ _, (hF _ _ rfl)⟩⟩))))⟩
             · rw [zst_nr (by omega)]; exact e89
             · rw [zst_nr (by omega)]; exact e92)
          | (refine ⟨20, by omega, Or.inr (Or.inr (Or.inr (Or.inr (Or.inr ⟨rfl, rfl, _, _, rfl, rfl, ((zMq_K hF).tr (zMq_Y hG)).st rfl, (hp.Y hG).st (by omega) _ _, hr, ?_, ?_, (he2.Y hG).st (by omega) _ _, Or.inr ⟨by omega, hh3.st (by omega) (by omega) _, fun q => ?_, fun q => hx1 q⟩⟩))))⟩
             · rw [zst_nr (by omega)]; exact (hG _ _ rfl).trans e89
             · rw [zst_nr (by omega)]; exact (hG _ _ rfl).trans e92
             · obtain ⟨y1, y2⟩ := hx0 q
               exact ⟨(zst_eq _ _ _ _).trans y1, y2.trans (hF _ _ rfl)⟩)
        · intro c17
          refine And.intro (by omega) ?_
          refine And.intro (by first | (show 0 ≤ _ ∧ _ < (40 : Int); omega) | (show 0 ≤ _ ∧ _ < (240 : Int); omega) | (show 0 ≤ _ ∧ _ < (6 : Int); omega) | (show 0 ≤ _ ∧ _ < (708 : Int); omega) | (show 0 ≤ _ ∧ _ < (4800 : Int); omega) | (show 0 ≤ _ ∧ _ < (8 : Int); omega)) ?_
          have hbt : zt5 (zps G P k) (G.2.1 (P.2.1 k)) b5 < G.1 := by
            unfold zt5
            split
            · omega
            · split <;> omega
          refine s_75m he2 hw hh2 h40 hp.2.2 hbt (by
            unfold zt5
            rcases hr2 with hr2 | hr2 | ⟨z1, z2, z3, z4⟩
            · omega
            · rw [if_pos hr2.2.2.1]; omega
            · rw [if_neg (by omega)]
              rcases z4 with z4 | z4
              · rw [if_pos z4.2]; omega
              · rw [if_neg z4.2]; omega) (fun h3 y hG hh3 hx0 hx1 => ?_)
          refine And.intro (by first | (show 0 ≤ _ ∧ _ < (40 : Int); omega) | (show 0 ≤ _ ∧ _ < (240 : Int); omega) | (show 0 ≤ _ ∧ _ < (6 : Int); omega) | (show 0 ≤ _ ∧ _ < (708 : Int); omega) | (show 0 ≤ _ ∧ _ < (4800 : Int); omega) | (show 0 ≤ _ ∧ _ < (8 : Int); omega)) ?_
          first
          | (refine ⟨20, by omega, Or.inr (Or.inr (Or.inr (Or.inr (Or.inr ⟨rfl, rfl, _, _, rfl, rfl, (zMq_K hF).st rfl, hp.st (by omega) _ _, hr, ?_, ?_, he2.st (by omega) _ _, Or.inl ⟨by omega, hh2.st (by omega) (by omega) _, zst_eq _ _ _ _, (hF _ _ rfl)⟩⟩))))⟩
             · rw [zst_nr (by omega)]; exact e89
             · rw [zst_nr (by omega)]; exact e92)
          | (refine ⟨20, by omega, Or.inr (Or.inr (Or.inr (Or.inr (Or.inr ⟨rfl, rfl, _, _, rfl, rfl, ((zMq_K hF).tr (zMq_Y hG)).st rfl, (hp.Y hG).st (by omega) _ _, hr, ?_, ?_, (he2.Y hG).st (by omega) _ _, Or.inr ⟨by omega, hh3.st (by omega) (by omega) _, fun q => ?_, fun q => hx1 q⟩⟩))))⟩
             · rw [zst_nr (by omega)]; exact (hG _ _ rfl).trans e89
             · rw [zst_nr (by omega)]; exact (hG _ _ rfl).trans e92
             · obtain ⟨y1, y2⟩ := hx0 q
               exact ⟨(zst_eq _ _ _ _).trans y1, y2.trans (hF _ _ rfl)⟩)
    · obtain ⟨rfl, rfl, b5, f6, rfl, hm, hF, hp, hr, e89, e92, he2, hcs⟩ := hI
      have hr2 := hr
      unfold zM5 at hr2
      have hv2 := hvs.fr (h2 := h2) (fun _ => hF _ _ rfl)
      have e4 : h2 82 (152 + (P.2.1 k : Int)) = G.2.1 (P.2.1 k) 4 := hv2.at hb 4 (by omega) (by omega) (by omega)
      constructor
      · intro c18
        refine And.intro (by first | (show 0 ≤ _ ∧ _ < (40 : Int); omega) | (show 0 ≤ _ ∧ _ < (240 : Int); omega) | (show 0 ≤ _ ∧ _ < (6 : Int); omega) | (show 0 ≤ _ ∧ _ < (708 : Int); omega) | (show 0 ≤ _ ∧ _ < (4800 : Int); omega) | (show 0 ≤ _ ∧ _ < (8 : Int); omega)) ?_
        first
        | (have hz : zpe G P k (zps G P k) (G.2.1 (P.2.1 k)) = (zput (zm1 G (zm1 G P k (zps G P k) (G.2.1 (P.2.1 k) 3).toNat).1 k (zps G P k) (G.2.1 (P.2.1 k) 4).toNat).1 k (zps G P k) 1 ((zm1 G P k (zps G P k) (G.2.1 (P.2.1 k) 3).toNat).2.1 : Int) ((zm1 G (zm1 G P k (zps G P k) (G.2.1 (P.2.1 k) 3).toNat).1 k (zps G P k) (G.2.1 (P.2.1 k) 4).toNat).2.1 : Int) (G.2.1 (P.2.1 k) 5), (zm1 G P k (zps G P k) (G.2.1 (P.2.1 k) 3).toNat).2.2 || (zm1 G (zm1 G P k (zps G P k) (G.2.1 (P.2.1 k) 3).toNat).1 k (zps G P k) (G.2.1 (P.2.1 k) 4).toNat).2.2) := by
             unfold zpe
             rw [if_neg (by omega), if_pos (And.intro hr3.1 hr3.2.1)]
           rw [hpr, hz] at hq
           refine hq _ ((hF.tr (zMq_Y hG)).st rfl) (fun q => ?_) (fun q => ?_)
           · have q := Bool.or_eq_false_iff.mp q
             obtain ⟨y1, y2⟩ := c3 q.1
             obtain ⟨z1, z2⟩ := hx2 q.2
             rw [if_neg (by omega), if_neg (by omega)] at e89
             rw [if_neg (by omega)] at e92
             refine ⟨(hh3.st (by omega) (by omega) _).put ((hp.Y hG).st (by omega) _ _) ?_ ?_ ?_ ?_, z2.trans y2⟩
             · rw [zst_nr (by omega)]; exact (hG _ _ rfl).trans e89
             · rw [zst_nr (by omega)]; exact (hG _ _ rfl).trans y1
             · rw [zst_eq]; exact z1
             · rw [zst_nr (by omega)]; exact (hG _ _ rfl).trans e92
           · show h3 81 16 = 1
             cases e : (zm1 G (zm1 G P k (zps G P k) (G.2.1 (P.2.1 k) 3).toNat).1 k (zps G P k) (G.2.1 (P.2.1 k) 4).toNat).2.2
             · have q : ((zm1 G P k (zps G P k) (G.2.1 (P.2.1 k) 3).toNat).2.2 || _) = true := q
               rw [e, Bool.or_false] at q
               exact (hx2 e).2.trans (c4 q)
             · exact hx3 e)
        | (have b50 : b5 = 0 := by assumption
           rw [if_pos b50] at e92
           rcases hcs with ⟨c1, c2, c3, c4⟩ | ⟨c1, c2, c3, c4⟩
           · have hz : zpe G P k (zps G P k) (G.2.1 (P.2.1 k)) = (zput P k (zps G P k) 2 (-4) (-4) (-4), false) := by
               unfold zpe
               rw [if_pos c1]
             rw [hpr, hz] at hq
             rw [if_pos c1] at e89
             refine hq _ (hF.st rfl) (fun q => ⟨(c2.st (by omega) (by omega) _).put (hp.st (by omega) _ _) ?_ ?_ ?_ ?_, c4⟩) (fun q => by cases q)
             · rw [zst_nr (by omega)]; exact e89
             · rw [zst_nr (by omega)]; exact c3
             · exact zst_eq _ _ _ _
             · rw [zst_nr (by omega)]; exact e92
           · have hz5 : zt5 (zps G P k) (G.2.1 (P.2.1 k)) b5 = (if G.2.1 (P.2.1 k) 2 = 0 ∨ ¬ (zps G P k).1 (G.2.1 (P.2.1 k) 5) = 0 then G.2.1 (P.2.1 k) 3 else G.2.1 (P.2.1 k) 4).toNat := by unfold zt5; rw [if_neg (by omega)]
             rw [hz5] at c2 c3 c4
             have hn1 : ¬ (G.2.1 (P.2.1 k) 2 = 1 ∧ Nat.testBit (zUG G) (G.2.1 (P.2.1 k) 5).toNat = true) := by
               rcases hr2 with z | z | z
               · exact absurd z.1 c1
               · have := z.2.2.1
                 omega
               · exact z.2.1
             have hz : zpe G P k (zps G P k) (G.2.1 (P.2.1 k)) = (zput (zm1 G P k (zps G P k) (if G.2.1 (P.2.1 k) 2 = 0 ∨ ¬ (zps G P k).1 (G.2.1 (P.2.1 k) 5) = 0 then G.2.1 (P.2.1 k) 3 else G.2.1 (P.2.1 k) 4).toNat).1 k (zps G P k) 0 ((zm1 G P k (zps G P k) (if G.2.1 (P.2.1 k) 2 = 0 ∨ ¬ (zps G P k).1 (G.2.1 (P.2.1 k) 5) = 0 then G.2.1 (P.2.1 k) 3 else G.2.1 (P.2.1 k) 4).toNat).2.1 : Int) (-4) (-4), (zm1 G P k (zps G P k) (if G.2.1 (P.2.1 k) 2 = 0 ∨ ¬ (zps G P k).1 (G.2.1 (P.2.1 k) 5) = 0 then G.2.1 (P.2.1 k) 3 else G.2.1 (P.2.1 k) 4).toNat).2.2) := by
               unfold zpe
               rw [if_neg c1, if_neg hn1]
             rw [hpr, hz] at hq
             rw [if_neg c1, if_pos b50] at e89
             refine hq _ (hF.st rfl) (fun q => ?_) (fun q => c4 q)
             obtain ⟨y1, y2⟩ := c3 q
             refine ⟨(c2.st (by omega) (by omega) _).put (hp.st (by omega) _ _) ?_ ?_ ?_ ?_, y2⟩
             · rw [zst_nr (by omega)]; exact e89
             · rw [zst_nr (by omega)]; exact y1
             · exact zst_eq _ _ _ _
             · rw [zst_nr (by omega)]; exact e92)
      · intro c18
        refine And.intro (by omega) ?_
        refine And.intro (by first | (show 0 ≤ _ ∧ _ < (40 : Int); omega) | (show 0 ≤ _ ∧ _ < (240 : Int); omega) | (show 0 ≤ _ ∧ _ < (6 : Int); omega) | (show 0 ≤ _ ∧ _ < (708 : Int); omega) | (show 0 ≤ _ ∧ _ < (4800 : Int); omega) | (show 0 ≤ _ ∧ _ < (8 : Int); omega)) ?_
        have hcs2 := hcs.resolve_left (fun q => by have := q.1; omega)
        have hr3 : G.2.1 (P.2.1 k) 2 = 1 ∧ Nat.testBit (zUG G) (G.2.1 (P.2.1 k) 5).toNat = true ∧ b5 = 1 := by
          rcases hr2 with z | z | z
          · omega
          · exact ⟨z.1, z.2.1, z.2.2.1⟩
          · have := z.2.2.1
            omega
        have hz5 : zt5 (zps G P k) (G.2.1 (P.2.1 k)) b5 = (G.2.1 (P.2.1 k) 3).toNat := by unfold zt5; rw [if_pos hr3.2.2]
        rw [hz5] at hcs2
        obtain ⟨c1, c2, c3, c4⟩ := hcs2
        have hm1 := zm1_o ho (b := (G.2.1 (P.2.1 k) 3).toNat) (by omega) hsl.1
        refine s_75m he2 hw c2 hm1.1.1 hp.2.2 (b := (G.2.1 (P.2.1 k) 4).toNat) (by omega) (by omega) (fun h3 z hG hh3 hx2 hx3 => ?_)
        refine And.intro (by first | (show 0 ≤ _ ∧ _ < (40 : Int); omega) | (show 0 ≤ _ ∧ _ < (240 : Int); omega) | (show 0 ≤ _ ∧ _ < (6 : Int); omega) | (show 0 ≤ _ ∧ _ < (708 : Int); omega) | (show 0 ≤ _ ∧ _ < (4800 : Int); omega) | (show 0 ≤ _ ∧ _ < (8 : Int); omega)) ?_
        first
        | (have hz : zpe G P k (zps G P k) (G.2.1 (P.2.1 k)) = (zput (zm1 G (zm1 G P k (zps G P k) (G.2.1 (P.2.1 k) 3).toNat).1 k (zps G P k) (G.2.1 (P.2.1 k) 4).toNat).1 k (zps G P k) 1 ((zm1 G P k (zps G P k) (G.2.1 (P.2.1 k) 3).toNat).2.1 : Int) ((zm1 G (zm1 G P k (zps G P k) (G.2.1 (P.2.1 k) 3).toNat).1 k (zps G P k) (G.2.1 (P.2.1 k) 4).toNat).2.1 : Int) (G.2.1 (P.2.1 k) 5), (zm1 G P k (zps G P k) (G.2.1 (P.2.1 k) 3).toNat).2.2 || (zm1 G (zm1 G P k (zps G P k) (G.2.1 (P.2.1 k) 3).toNat).1 k (zps G P k) (G.2.1 (P.2.1 k) 4).toNat).2.2) := by
             unfold zpe
             rw [if_neg (by omega), if_pos (And.intro hr3.1 hr3.2.1)]
           rw [hpr, hz] at hq
           refine hq _ ((hF.tr (zMq_Y hG)).st rfl) (fun q => ?_) (fun q => ?_)
           · have q := Bool.or_eq_false_iff.mp q
             obtain ⟨y1, y2⟩ := c3 q.1
             obtain ⟨z1, z2⟩ := hx2 q.2
             rw [if_neg (by omega), if_neg (by omega)] at e89
             rw [if_neg (by omega)] at e92
             refine ⟨(hh3.st (by omega) (by omega) _).put ((hp.Y hG).st (by omega) _ _) ?_ ?_ ?_ ?_, z2.trans y2⟩
             · rw [zst_nr (by omega)]; exact (hG _ _ rfl).trans e89
             · rw [zst_nr (by omega)]; exact (hG _ _ rfl).trans y1
             · rw [zst_eq]; exact z1
             · rw [zst_nr (by omega)]; exact (hG _ _ rfl).trans e92
           · show h3 81 16 = 1
             cases e : (zm1 G (zm1 G P k (zps G P k) (G.2.1 (P.2.1 k) 3).toNat).1 k (zps G P k) (G.2.1 (P.2.1 k) 4).toNat).2.2
             · have q : ((zm1 G P k (zps G P k) (G.2.1 (P.2.1 k) 3).toNat).2.2 || _) = true := q
               rw [e, Bool.or_false] at q
               exact (hx2 e).2.trans (c4 q)
             · exact hx3 e)
        | (have b50 : b5 = 0 := by assumption
           rw [if_pos b50] at e92
           rcases hcs with ⟨c1, c2, c3, c4⟩ | ⟨c1, c2, c3, c4⟩
           · have hz : zpe G P k (zps G P k) (G.2.1 (P.2.1 k)) = (zput P k (zps G P k) 2 (-4) (-4) (-4), false) := by
               unfold zpe
               rw [if_pos c1]
             rw [hpr, hz] at hq
             rw [if_pos c1] at e89
             refine hq _ (hF.st rfl) (fun q => ⟨(c2.st (by omega) (by omega) _).put (hp.st (by omega) _ _) ?_ ?_ ?_ ?_, c4⟩) (fun q => by cases q)
             · rw [zst_nr (by omega)]; exact e89
             · rw [zst_nr (by omega)]; exact c3
             · exact zst_eq _ _ _ _
             · rw [zst_nr (by omega)]; exact e92
           · have hz5 : zt5 (zps G P k) (G.2.1 (P.2.1 k)) b5 = (if G.2.1 (P.2.1 k) 2 = 0 ∨ ¬ (zps G P k).1 (G.2.1 (P.2.1 k) 5) = 0 then G.2.1 (P.2.1 k) 3 else G.2.1 (P.2.1 k) 4).toNat := by unfold zt5; rw [if_neg (by omega)]
             rw [hz5] at c2 c3 c4
             have hn1 : ¬ (G.2.1 (P.2.1 k) 2 = 1 ∧ Nat.testBit (zUG G) (G.2.1 (P.2.1 k) 5).toNat = true) := by
               rcases hr2 with z | z | z
               · exact absurd z.1 c1
               · have := z.2.2.1
                 omega
               · exact z.2.1
             have hz : zpe G P k (zps G P k) (G.2.1 (P.2.1 k)) = (zput (zm1 G P k (zps G P k) (if G.2.1 (P.2.1 k) 2 = 0 ∨ ¬ (zps G P k).1 (G.2.1 (P.2.1 k) 5) = 0 then G.2.1 (P.2.1 k) 3 else G.2.1 (P.2.1 k) 4).toNat).1 k (zps G P k) 0 ((zm1 G P k (zps G P k) (if G.2.1 (P.2.1 k) 2 = 0 ∨ ¬ (zps G P k).1 (G.2.1 (P.2.1 k) 5) = 0 then G.2.1 (P.2.1 k) 3 else G.2.1 (P.2.1 k) 4).toNat).2.1 : Int) (-4) (-4), (zm1 G P k (zps G P k) (if G.2.1 (P.2.1 k) 2 = 0 ∨ ¬ (zps G P k).1 (G.2.1 (P.2.1 k) 5) = 0 then G.2.1 (P.2.1 k) 3 else G.2.1 (P.2.1 k) 4).toNat).2.2) := by
               unfold zpe
               rw [if_neg c1, if_neg hn1]
             rw [hpr, hz] at hq
             rw [if_neg c1, if_pos b50] at e89
             refine hq _ (hF.st rfl) (fun q => ?_) (fun q => c4 q)
             obtain ⟨y1, y2⟩ := c3 q
             refine ⟨(c2.st (by omega) (by omega) _).put (hp.st (by omega) _ _) ?_ ?_ ?_ ?_, y2⟩
             · rw [zst_nr (by omega)]; exact e89
             · rw [zst_nr (by omega)]; exact y1
             · exact zst_eq _ _ _ _
             · rw [zst_nr (by omega)]; exact e92)
