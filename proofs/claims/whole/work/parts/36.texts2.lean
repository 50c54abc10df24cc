/-! CONTRACTS: the reference's texts -/
theorem s_98e {s : List Int} {h : zM} (hs : zPg h s) {x n : Int} (e : x = n) {Q : zQ} (hl : s.length + 2 ≤ 800) (hn : 0 ≤ n ∧ n < 100) (hq : ∀ h2, zF zPf h h2 → zPg h2 (s ++ zdg n) → Q none h2) : zR 98 [.inr (.inr 81), .inl x] h Q := by
  subst e
  exact s_98 hs hl hn hq
theorem s_99e {s : List Int} {h : zM} (hs : zPg h s) (hc : zWc h) {x : Int} {l : List Int} (e : ∃ w : Nat, x = (w : Int) ∧ w < 10 ∧ zpw w = l) {Q : zQ} (hl : s.length + 5 ≤ 800) (hq : ∀ h2, zF zPf h h2 → zPg h2 (s ++ l) → Q none h2) : zR 99 [.inr (.inr 81), .inl x] h Q := by
  obtain ⟨w, rfl, hw, rfl⟩ := e
  exact s_99 hs hc hw hl hq
theorem s_100e {s : List Int} {h : zM} (hs : zPg h s) {x o : Int} (e : x = o) {Q : zQ} (hl : s.length + 3 ≤ 800) (ho : 0 ≤ o ∧ o < 106) (hq : ∀ h2, zF zPf h h2 → zPg h2 (s ++ zop o) → Q none h2) : zR 100 [.inr (.inr 81), .inl x] h Q := by
  subst e
  exact s_100 hs hl ho hq
theorem s_100v {s : List Int} {h : zM} (hs : zPg h s) {x v : Int} (e : x = 100 + v) {Q : zQ} (hl : s.length + 3 ≤ 800) (hv : 0 ≤ v ∧ v < 6) (hq : ∀ h2, zF zPf h h2 → zPg h2 (s ++ [32, 97 + v]) → Q none h2) : zR 100 [.inr (.inr 81), .inl x] h Q := by
  refine s_100e hs e hl (by omega) (fun h2 hF hs => hq h2 hF ?_)
  rw [zop, if_neg (by omega), show 97 + (100 + v - 100) = 97 + v by omega] at hs
  exact hs
theorem s_102e {s : List Int} {h : zM} (hs : zPg h s) {x n : Int} (e : x = n) {Q : zQ} (hl : s.length + 4 ≤ 800) (hn : 0 ≤ n ∧ n < 100) (hq : ∀ h2, zF zPf h h2 → zPg h2 (s ++ (32 :: 112 :: zdg n)) → Q none h2) : zR 102 [.inr (.inr 81), .inl x] h Q := by
  subst e
  exact s_102 hs hl hn hq
theorem zWc.fr {h h2 : zM} (hc : zWc h) (e1 : ∀ k, h2 84 k = h 84 k) (e2 : ∀ k, h2 85 k = h 85 k) : zWc h2 := ⟨fun k hk => (e1 _).trans (hc.1 k hk), fun k hk => (e2 _).trans (hc.2 k hk)⟩
/-- the word of a kind -/
def zkw (k : Int) : List Int := if k = 1 then [115, 97, 121] else [115, 101, 116]
theorem zkw_e {x k : Int} (e : x = k) (hk : k = 0 ∨ k = 1) : ∃ w : Nat, x = (w : Int) ∧ w < 10 ∧ zpw w = zkw k := by
  subst e
  rcases hk with rfl | rfl
  · exact ⟨0, rfl, by omega, by decide +kernel⟩
  · exact ⟨1, rfl, by omega, by decide +kernel⟩
theorem zkw_l (k : Int) : (zkw k).length = 3 := by
  unfold zkw
  split <;> rfl
theorem zopn_e {x o : Int} (e : x = 6 + o) (ho : 0 ≤ o ∧ o < 4) : ∃ w : Nat, x = (w : Int) ∧ w < 10 ∧ zpw w = zopn o := by
  subst e
  rcases (show o = 0 ∨ o = 1 ∨ o = 2 ∨ o = 3 by omega) with rfl | rfl | rfl | rfl
  · exact ⟨6, rfl, by omega, by decide +kernel⟩
  · exact ⟨7, rfl, by omega, by decide +kernel⟩
  · exact ⟨8, rfl, by omega, by decide +kernel⟩
  · exact ⟨9, rfl, by omega, by decide +kernel⟩
/-- the word of an end -/
def zew (k : Int) : List Int := if k = 2 then [115, 116, 111, 112] else if k = 0 then [103, 111, 116, 111] else [105, 102]
theorem zew_e {x k : Int} (e : x = 2 + k) (hk : k = 0 ∨ k = 1 ∨ k = 2) : ∃ w : Nat, x = (w : Int) ∧ w < 10 ∧ zpw w = zew k := by
  subst e
  rcases hk with rfl | rfl | rfl
  · exact ⟨2, rfl, by omega, by decide +kernel⟩
  · exact ⟨3, rfl, by omega, by decide +kernel⟩
  · exact ⟨4, rfl, by omega, by decide +kernel⟩
theorem zew_l (k : Int) : (zew k).length ≤ 4 := by
  unfold zew
  split
  · simp
  · split <;> simp
/-- the reference's points are W -/
def zVm (h : zM) (W : zW) : Prop := h 81 15 = (W.1 : Int) ∧ ∀ p : Nat, p < W.1 → h 93 (p : Int) = W.2.1 p 1 ∧ h 89 (p : Int) = W.2.1 p 2 ∧ h 90 (p : Int) = W.2.1 p 3 ∧ h 91 (p : Int) = W.2.1 p 4 ∧ h 92 (p : Int) = W.2.1 p 5 ∧ ∀ i w : Nat, (i : Int) < W.2.1 p 1 → w < 5 → h 94 (120 * (p : Int) + 5 * (i : Int) + (w : Int)) = W.2.2 p i w
theorem zVm.fr {h h2 : zM} {W : zW} (hv : zVm h W) (e0 : h2 81 15 = h 81 15) (e : ∀ r k, 89 ≤ r → r ≤ 94 → h2 r k = h r k) : zVm h2 W := by
  refine ⟨e0.trans hv.1, fun p hp => ?_⟩
  obtain ⟨a, b, c, d, f, g⟩ := hv.2 p hp
  rw [e 93 _ (by omega) (by omega), e 89 _ (by omega) (by omega), e 90 _ (by omega) (by omega), e 91 _ (by omega) (by omega), e 92 _ (by omega) (by omega)]
  exact ⟨a, b, c, d, f, fun i w hi hw => (e 94 _ (by omega) (by omega)).trans (g i w hi hw)⟩
theorem zPf_n {r : Nat} {k : Int} (h1 : 89 ≤ r) (h2 : r ≤ 94) : zPf r k = false := by
  have a : Nat.beq r 96 = false := zbeq_ne (by omega)
  have b : Nat.beq r 81 = false := zbeq_ne (by omega)
  unfold zPf
  rw [a, b]
  rfl
theorem zVm.P {h h2 : zM} {W : zW} (hv : zVm h W) (hF : zF zPf h h2) : zVm h2 W := hv.fr (hF _ _ rfl) (fun _ _ a b => hF _ _ (zPf_n a b))
set_option maxHeartbeats 4000000 in
set_option maxRecDepth 100000 in
/-- M.showsStep -/
theorem s_101 {s : List Int} {h : zM} (hs : zPg h s) (hc : zWc h) {a : Int} {t : Nat → Int} (ha : 0 ≤ a ∧ a ≤ 4795) (hx : ∀ w : Nat, w < 5 → h 94 (a + (w : Int)) = t w) (ht : zWS t) {Q : zQ} (hl : s.length + 17 ≤ 800) (hq : ∀ h2, zF zPf h h2 → zPg h2 (s ++ zstp t) → Q none h2) : zR 101 [.inr (.inr 81), .inl a] h Q := by
  have x0 : h 94 a = t 0 := by have := hx 0 (by omega); rwa [show a + ((0 : Nat) : Int) = a by omega] at this
  have x1 : h 94 (a + 1) = t 1 := hx 1 (by omega)
  have x2 : h 94 (a + 2) = t 2 := hx 2 (by omega)
  have x3 : h 94 (a + 3) = t 3 := hx 3 (by omega)
  have x4 : h 94 (a + 4) = t 4 := hx 4 (by omega)
  have o2 := zop_l (t 2)
  have o4 := zop_l (t 4)
  have o3 := zopn_l (t 3)
  have ok := zkw_l (t 0)
  unfold zWS at ht
  have hF : zF zPf h h := zF.rf
  refine zx_met0 zk_101 (Or.inr ⟨_, _, rfl, rfl⟩) (Nat.le_of_ble_eq_true rfl) 1000 (fun hok hM => ?_)
  refine And.intro (by show 0 ≤ _ ∧ _ < (4800 : Int); omega) ?_
  refine s_99e hs hc (zkw_e ((hF 94 _ rfl).trans x0) (by omega)) (by (try simp only [List.length_append, List.length_cons, List.length_nil]); omega) (fun _ hG hs => ?_)
  replace hF := hF.tr hG
  replace hc := hc.fr (fun _ => hG _ _ rfl) (fun _ => hG _ _ rfl)
  refine And.intro (by show 0 ≤ _ ∧ _ < (4800 : Int); omega) ?_
  have y0 := (hF 94 a rfl).trans x0
  constructor
  · intro c1
    refine And.intro (by first | omega | (have y1 := (hF 94 (a + 1) rfl).trans x1; have y3 := (hF 94 (a + 3) rfl).trans x3; omega)) ?_
    refine And.intro (by show 0 ≤ _ ∧ _ < (4800 : Int); omega) ?_
    refine And.intro (by first | omega | (have y1 := (hF 94 (a + 1) rfl).trans x1; have y3 := (hF 94 (a + 3) rfl).trans x3; omega)) ?_
    refine s_100v hs (v := t 1) (by have := (hF 94 (a + 1) rfl).trans x1; omega) (by (try simp only [List.length_append, List.length_cons, List.length_nil]); omega) (by omega) (fun _ hG hs => ?_)
    replace hF := hF.tr hG
    replace hc := hc.fr (fun _ => hG _ _ rfl) (fun _ => hG _ _ rfl)
    refine And.intro (by first | omega | (have y1 := (hF 94 (a + 1) rfl).trans x1; have y3 := (hF 94 (a + 3) rfl).trans x3; omega)) ?_
    refine And.intro (by show 0 ≤ _ ∧ _ < (4800 : Int); omega) ?_
    refine s_100e hs ((hF 94 _ rfl).trans x2) (by (try simp only [List.length_append, List.length_cons, List.length_nil]); omega) (by omega) (fun _ hG hs => ?_)
    replace hF := hF.tr hG
    replace hc := hc.fr (fun _ => hG _ _ rfl) (fun _ => hG _ _ rfl)
    refine And.intro (by show 0 ≤ _ ∧ _ < (4800 : Int); omega) ?_
    have y0 := (hF 94 a rfl).trans x0
    constructor
    · intro c2
      refine s_97 hs (by (try simp only [List.length_append, List.length_cons, List.length_nil]); omega) (fun _ hG hs => ?_)
      replace hF := hF.tr hG
      replace hc := hc.fr (fun _ => hG _ _ rfl) (fun _ => hG _ _ rfl)
      refine And.intro (by first | omega | (have y1 := (hF 94 (a + 1) rfl).trans x1; have y3 := (hF 94 (a + 3) rfl).trans x3; omega)) ?_
      refine And.intro (by show 0 ≤ _ ∧ _ < (4800 : Int); omega) ?_
      refine And.intro (by first | omega | (have y1 := (hF 94 (a + 1) rfl).trans x1; have y3 := (hF 94 (a + 3) rfl).trans x3; omega)) ?_
      refine s_99e hs hc (zopn_e (o := t 3) (by have := (hF 94 (a + 3) rfl).trans x3; omega) (by omega)) (by (try simp only [List.length_append, List.length_cons, List.length_nil]); omega) (fun _ hG hs => ?_)
      replace hF := hF.tr hG
      replace hc := hc.fr (fun _ => hG _ _ rfl) (fun _ => hG _ _ rfl)
      refine And.intro (by first | omega | (have y1 := (hF 94 (a + 1) rfl).trans x1; have y3 := (hF 94 (a + 3) rfl).trans x3; omega)) ?_
      refine And.intro (by show 0 ≤ _ ∧ _ < (4800 : Int); omega) ?_
      refine s_100e hs ((hF 94 _ rfl).trans x4) (by (try simp only [List.length_append, List.length_cons, List.length_nil]); omega) (by omega) (fun _ hG hs => ?_)
      replace hF := hF.tr hG
      replace hc := hc.fr (fun _ => hG _ _ rfl) (fun _ => hG _ _ rfl)
      refine s_97 hs (by (try simp only [List.length_append, List.length_cons, List.length_nil]); omega) (fun _ hG hs => ?_)
      replace hF := hF.tr hG
      replace hc := hc.fr (fun _ => hG _ _ rfl) (fun _ => hG _ _ rfl)
      first
      | (exfalso; omega)
      | (have t0 : t 0 = 1 := by omega
         refine hq _ hF ?_
         simpa [zstp, zkw, t0] using hs)
      | (have t0 : t 0 = 0 := by omega
         refine hq _ hF ?_
         simpa [zstp, zkw, t0] using hs)
    · intro c2
      refine s_97 hs (by (try simp only [List.length_append, List.length_cons, List.length_nil]); omega) (fun _ hG hs => ?_)
      replace hF := hF.tr hG
      replace hc := hc.fr (fun _ => hG _ _ rfl) (fun _ => hG _ _ rfl)
      first
      | (exfalso; omega)
      | (have t0 : t 0 = 1 := by omega
         refine hq _ hF ?_
         simpa [zstp, zkw, t0] using hs)
      | (have t0 : t 0 = 0 := by omega
         refine hq _ hF ?_
         simpa [zstp, zkw, t0] using hs)
  · intro c1
    refine And.intro (by first | omega | (have y1 := (hF 94 (a + 1) rfl).trans x1; have y3 := (hF 94 (a + 3) rfl).trans x3; omega)) ?_
    refine And.intro (by show 0 ≤ _ ∧ _ < (4800 : Int); omega) ?_
    refine s_100e hs ((hF 94 _ rfl).trans x2) (by (try simp only [List.length_append, List.length_cons, List.length_nil]); omega) (by omega) (fun _ hG hs => ?_)
    replace hF := hF.tr hG
    replace hc := hc.fr (fun _ => hG _ _ rfl) (fun _ => hG _ _ rfl)
    refine And.intro (by show 0 ≤ _ ∧ _ < (4800 : Int); omega) ?_
    have y0 := (hF 94 a rfl).trans x0
    constructor
    · intro c3
      refine s_97 hs (by (try simp only [List.length_append, List.length_cons, List.length_nil]); omega) (fun _ hG hs => ?_)
      replace hF := hF.tr hG
      replace hc := hc.fr (fun _ => hG _ _ rfl) (fun _ => hG _ _ rfl)
      refine And.intro (by first | omega | (have y1 := (hF 94 (a + 1) rfl).trans x1; have y3 := (hF 94 (a + 3) rfl).trans x3; omega)) ?_
      refine And.intro (by show 0 ≤ _ ∧ _ < (4800 : Int); omega) ?_
      refine And.intro (by first | omega | (have y1 := (hF 94 (a + 1) rfl).trans x1; have y3 := (hF 94 (a + 3) rfl).trans x3; omega)) ?_
      refine s_99e hs hc (zopn_e (o := t 3) (by have := (hF 94 (a + 3) rfl).trans x3; omega) (by omega)) (by (try simp only [List.length_append, List.length_cons, List.length_nil]); omega) (fun _ hG hs => ?_)
      replace hF := hF.tr hG
      replace hc := hc.fr (fun _ => hG _ _ rfl) (fun _ => hG _ _ rfl)
      refine And.intro (by first | omega | (have y1 := (hF 94 (a + 1) rfl).trans x1; have y3 := (hF 94 (a + 3) rfl).trans x3; omega)) ?_
      refine And.intro (by show 0 ≤ _ ∧ _ < (4800 : Int); omega) ?_
      refine s_100e hs ((hF 94 _ rfl).trans x4) (by (try simp only [List.length_append, List.length_cons, List.length_nil]); omega) (by omega) (fun _ hG hs => ?_)
      replace hF := hF.tr hG
      replace hc := hc.fr (fun _ => hG _ _ rfl) (fun _ => hG _ _ rfl)
      refine s_97 hs (by (try simp only [List.length_append, List.length_cons, List.length_nil]); omega) (fun _ hG hs => ?_)
      replace hF := hF.tr hG
      replace hc := hc.fr (fun _ => hG _ _ rfl) (fun _ => hG _ _ rfl)
      first
      | (exfalso; omega)
      | (have t0 : t 0 = 1 := by omega
         refine hq _ hF ?_
         simpa [zstp, zkw, t0] using hs)
      | (have t0 : t 0 = 0 := by omega
         refine hq _ hF ?_
         simpa [zstp, zkw, t0] using hs)
    · intro c3
      refine s_97 hs (by (try simp only [List.length_append, List.length_cons, List.length_nil]); omega) (fun _ hG hs => ?_)
      replace hF := hF.tr hG
      replace hc := hc.fr (fun _ => hG _ _ rfl) (fun _ => hG _ _ rfl)
      first
      | (exfalso; omega)
      | (have t0 : t 0 = 1 := by omega
         refine hq _ hF ?_
         simpa [zstp, zkw, t0] using hs)
      | (have t0 : t 0 = 0 := by omega
         refine hq _ hF ?_
         simpa [zstp, zkw, t0] using hs)
set_option maxHeartbeats 4000000 in
set_option maxRecDepth 100000 in
/-- M.shownOf -/
theorem s_103 {h : zM} (hc : zWc h) {W : zW} (hv : zVm h W) (hw : zWw W) {k : Nat} (hk : k < W.1) {Q : zQ} (hq : ∀ h2, zF zPf h h2 → zPg h2 (zshw W k) → Q (some (.inl ((zshw W k).length : Int))) h2) : zR 103 [.inr (.inr 81), .inl (k : Int)] h Q := by
  have hs0 : zPg (zx_st h 81 27 0) [] := ⟨zst_eq _ _ _ _, fun k hk => by simp at hk⟩
  have hF : zF zPf h (zx_st h 81 27 0) := zF.rf.st rfl
  have o1 := zdg_l (k : Int)
  have o3 := zdg_l (W.2.1 k 3)
  have o4 := zdg_l (W.2.1 k 4)
  have o5 := zew_l (W.2.1 k 2)
  have hn := hw.1
  have hcn := (hw.2 k hk).1
  have he := (hw.2 k hk).2.1
  unfold zWE at he
  obtain ⟨c, hc1⟩ : ∃ c : Nat, (c : Int) = W.2.1 k 1 := ⟨(W.2.1 k 1).toNat, by omega⟩
  have hct : (W.2.1 k 1).toNat = c := by omega
  obtain ⟨e1, e2, e3, e4, e5, e6⟩ := hv.2 k hk
  have hcc := hc
  refine zx_met zk_103 (Or.inr ⟨_, _, rfl, rfl⟩) (Nat.le_of_ble_eq_true rfl) (fun _ => false) 1000 (fun m j L S h2 => j = 14 ∧ S = [] ∧ ∃ i : Nat, L = [some (.inr (.inr 81)), some (.inl (k : Int)), some (.inl (i : Int))] ∧ i ≤ c ∧ m = c - i ∧ zF zPf h h2 ∧ zPg h2 (112 :: (zdg (k : Int) ++ 58 :: ztx (W.2.2 k) i))) (fun hok hM => ?_) (fun hok hM => ?_)
  · refine s_97 hs0 (by (try simp only [List.length_append, List.length_cons, List.length_nil]); omega) (fun _ hG hs => ?_)
    replace hF := hF.tr hG
    replace hc := hc.fr (fun _ => hG _ _ rfl) (fun _ => hG _ _ rfl)
    refine s_98 hs (by (try simp only [List.length_append, List.length_cons, List.length_nil]); omega) (by omega) (fun _ hG hs => ?_)
    replace hF := hF.tr hG
    replace hc := hc.fr (fun _ => hG _ _ rfl) (fun _ => hG _ _ rfl)
    refine s_97 hs (by (try simp only [List.length_append, List.length_cons, List.length_nil]); omega) (fun _ hG hs => ?_)
    replace hF := hF.tr hG
    replace hc := hc.fr (fun _ => hG _ _ rfl) (fun _ => hG _ _ rfl)
    exact ⟨c, rfl, rfl, 0, rfl, by omega, rfl, hF, by simpa [ztx] using hs⟩
  · rintro m j L S h2 hM2 ⟨rfl, rfl, i, rfl, hi, hm, hF, hs⟩
    replace hc := hc.fr (fun _ => hF _ _ rfl) (fun _ => hF _ _ rfl)
    have htl := ztx_l (W.2.2 k) i
    have y1 := (hF 93 (k : Int) rfl).trans e1
    refine And.intro (by show 0 ≤ _ ∧ _ < (40 : Int); omega) ?_
    constructor
    · intro c1
      refine s_97 hs (by (try simp only [List.length_append, List.length_cons, List.length_nil]); omega) (fun _ hG hs => ?_)
      replace hF := hF.tr hG
      replace hc := hc.fr (fun _ => hG _ _ rfl) (fun _ => hG _ _ rfl)
      refine And.intro (by omega) ?_
      refine And.intro (by omega) ?_
      refine And.intro (by omega) ?_
      refine s_101 hs hc (by omega) (fun w hw => (hF 94 _ rfl).trans (e6 i w (by omega) hw)) ((hw.2 k hk).2.2 i (by omega)) (by (try simp only [List.length_append, List.length_cons, List.length_nil]); omega) (fun _ hG hs => ?_)
      replace hF := hF.tr hG
      replace hc := hc.fr (fun _ => hG _ _ rfl) (fun _ => hG _ _ rfl)
      refine And.intro (by omega) ?_
      exact ⟨c - (i + 1), by omega, rfl, rfl, i + 1, rfl, by omega, rfl, hF, by simpa [ztx] using hs⟩
    · intro c1
      refine s_97 hs (by (try simp only [List.length_append, List.length_cons, List.length_nil]); omega) (fun _ hG hs => ?_)
      replace hF := hF.tr hG
      replace hc := hc.fr (fun _ => hG _ _ rfl) (fun _ => hG _ _ rfl)
      refine And.intro (by show 0 ≤ _ ∧ _ < (40 : Int); omega) ?_
      refine And.intro (by have y2 := (hF 89 (k : Int) rfl).trans e2; have y5 := (hF 92 (k : Int) rfl).trans e5; omega) ?_
      refine s_99e hs hc (zew_e (k := W.2.1 k 2) (by have y2 := (hF 89 (k : Int) rfl).trans e2; have y5 := (hF 92 (k : Int) rfl).trans e5; omega) (by omega)) (by (try simp only [List.length_append, List.length_cons, List.length_nil]); omega) (fun _ hG hs => ?_)
      replace hF := hF.tr hG
      replace hc := hc.fr (fun _ => hG _ _ rfl) (fun _ => hG _ _ rfl)
      refine And.intro (by show 0 ≤ _ ∧ _ < (40 : Int); omega) ?_
      have y2 := (hF 89 (k : Int) rfl).trans e2
      have y5 := (hF 92 (k : Int) rfl).trans e5
      constructor
      · intro c2
        refine And.intro (by show 0 ≤ _ ∧ _ < (40 : Int); omega) ?_
        refine And.intro (by have y2 := (hF 89 (k : Int) rfl).trans e2; have y5 := (hF 92 (k : Int) rfl).trans e5; omega) ?_
        refine s_100v hs (v := W.2.1 k 5) (by have y2 := (hF 89 (k : Int) rfl).trans e2; have y5 := (hF 92 (k : Int) rfl).trans e5; omega) (by (try simp only [List.length_append, List.length_cons, List.length_nil]); omega) (by omega) (fun _ hG hs => ?_)
        replace hF := hF.tr hG
        replace hc := hc.fr (fun _ => hG _ _ rfl) (fun _ => hG _ _ rfl)
        refine And.intro (by show 0 ≤ _ ∧ _ < (40 : Int); omega) ?_
        have y2 := (hF 89 (k : Int) rfl).trans e2
        have y5 := (hF 92 (k : Int) rfl).trans e5
        constructor
        · intro c3
          refine And.intro (by show 0 ≤ _ ∧ _ < (40 : Int); omega) ?_
          refine s_102e hs ((hF 90 _ rfl).trans e3) (by (try simp only [List.length_append, List.length_cons, List.length_nil]); omega) (by omega) (fun _ hG hs => ?_)
          replace hF := hF.tr hG
          replace hc := hc.fr (fun _ => hG _ _ rfl) (fun _ => hG _ _ rfl)
          refine And.intro (by show 0 ≤ _ ∧ _ < (40 : Int); omega) ?_
          have y2 := (hF 89 (k : Int) rfl).trans e2
          have y5 := (hF 92 (k : Int) rfl).trans e5
          constructor
          · intro c4
            refine And.intro (by show 0 ≤ _ ∧ _ < (40 : Int); omega) ?_
            refine s_102e hs ((hF 91 _ rfl).trans e4) (by (try simp only [List.length_append, List.length_cons, List.length_nil]); omega) (by omega) (fun _ hG hs => ?_)
            replace hF := hF.tr hG
            replace hc := hc.fr (fun _ => hG _ _ rfl) (fun _ => hG _ _ rfl)
            refine s_97 hs (by (try simp only [List.length_append, List.length_cons, List.length_nil]); omega) (fun h9 hG hs => ?_)
            replace hF := hF.tr hG
            replace hc := hc.fr (fun _ => hG _ _ rfl) (fun _ => hG _ _ rfl)
            have hic : i = c := by omega
            subst hic
            first
            | (exfalso; omega)
            | (have t0 : W.2.1 k 2 = 2 := by omega
               have hz : zPg h9 (zshw W k) := by
                 rw [zshw, hct]
                 simpa [zent, zew, t0] using hs
               have hr := hq _ hF hz
               rw [← hz.1] at hr
               exact hr)
            | (have t0 : W.2.1 k 2 = 0 := by omega
               have hz : zPg h9 (zshw W k) := by
                 rw [zshw, hct]
                 simpa [zent, zew, t0] using hs
               have hr := hq _ hF hz
               rw [← hz.1] at hr
               exact hr)
            | (have t0 : W.2.1 k 2 = 1 := by omega
               have hz : zPg h9 (zshw W k) := by
                 rw [zshw, hct]
                 simpa [zent, zew, t0] using hs
               have hr := hq _ hF hz
               rw [← hz.1] at hr
               exact hr)
          · intro c4
            refine s_97 hs (by (try simp only [List.length_append, List.length_cons, List.length_nil]); omega) (fun h9 hG hs => ?_)
            replace hF := hF.tr hG
            replace hc := hc.fr (fun _ => hG _ _ rfl) (fun _ => hG _ _ rfl)
            have hic : i = c := by omega
            subst hic
            first
            | (exfalso; omega)
            | (have t0 : W.2.1 k 2 = 2 := by omega
               have hz : zPg h9 (zshw W k) := by
                 rw [zshw, hct]
                 simpa [zent, zew, t0] using hs
               have hr := hq _ hF hz
               rw [← hz.1] at hr
               exact hr)
            | (have t0 : W.2.1 k 2 = 0 := by omega
               have hz : zPg h9 (zshw W k) := by
                 rw [zshw, hct]
                 simpa [zent, zew, t0] using hs
               have hr := hq _ hF hz
               rw [← hz.1] at hr
               exact hr)
            | (have t0 : W.2.1 k 2 = 1 := by omega
               have hz : zPg h9 (zshw W k) := by
                 rw [zshw, hct]
                 simpa [zent, zew, t0] using hs
               have hr := hq _ hF hz
               rw [← hz.1] at hr
               exact hr)
        · intro c3
          refine And.intro (by show 0 ≤ _ ∧ _ < (40 : Int); omega) ?_
          have y2 := (hF 89 (k : Int) rfl).trans e2
          have y5 := (hF 92 (k : Int) rfl).trans e5
          constructor
          · intro c5
            refine And.intro (by show 0 ≤ _ ∧ _ < (40 : Int); omega) ?_
            refine s_102e hs ((hF 91 _ rfl).trans e4) (by (try simp only [List.length_append, List.length_cons, List.length_nil]); omega) (by omega) (fun _ hG hs => ?_)
            replace hF := hF.tr hG
            replace hc := hc.fr (fun _ => hG _ _ rfl) (fun _ => hG _ _ rfl)
            refine s_97 hs (by (try simp only [List.length_append, List.length_cons, List.length_nil]); omega) (fun h9 hG hs => ?_)
            replace hF := hF.tr hG
            replace hc := hc.fr (fun _ => hG _ _ rfl) (fun _ => hG _ _ rfl)
            have hic : i = c := by omega
            subst hic
            first
            | (exfalso; omega)
            | (have t0 : W.2.1 k 2 = 2 := by omega
               have hz : zPg h9 (zshw W k) := by
                 rw [zshw, hct]
                 simpa [zent, zew, t0] using hs
               have hr := hq _ hF hz
               rw [← hz.1] at hr
               exact hr)
            | (have t0 : W.2.1 k 2 = 0 := by omega
               have hz : zPg h9 (zshw W k) := by
                 rw [zshw, hct]
                 simpa [zent, zew, t0] using hs
               have hr := hq _ hF hz
               rw [← hz.1] at hr
               exact hr)
            | (have t0 : W.2.1 k 2 = 1 := by omega
               have hz : zPg h9 (zshw W k) := by
                 rw [zshw, hct]
                 simpa [zent, zew, t0] using hs
               have hr := hq _ hF hz
               rw [← hz.1] at hr
               exact hr)
          · intro c5
            refine s_97 hs (by (try simp only [List.length_append, List.length_cons, List.length_nil]); omega) (fun h9 hG hs => ?_)
            replace hF := hF.tr hG
            replace hc := hc.fr (fun _ => hG _ _ rfl) (fun _ => hG _ _ rfl)
            have hic : i = c := by omega
            subst hic
            first
            | (exfalso; omega)
            | (have t0 : W.2.1 k 2 = 2 := by omega
               have hz : zPg h9 (zshw W k) := by
                 rw [zshw, hct]
                 simpa [zent, zew, t0] using hs
               have hr := hq _ hF hz
               rw [← hz.1] at hr
               exact hr)
            | (have t0 : W.2.1 k 2 = 0 := by omega
               have hz : zPg h9 (zshw W k) := by
                 rw [zshw, hct]
                 simpa [zent, zew, t0] using hs
               have hr := hq _ hF hz
               rw [← hz.1] at hr
               exact hr)
            | (have t0 : W.2.1 k 2 = 1 := by omega
               have hz : zPg h9 (zshw W k) := by
                 rw [zshw, hct]
                 simpa [zent, zew, t0] using hs
               have hr := hq _ hF hz
               rw [← hz.1] at hr
               exact hr)
      · intro c2
        refine And.intro (by show 0 ≤ _ ∧ _ < (40 : Int); omega) ?_
        have y2 := (hF 89 (k : Int) rfl).trans e2
        have y5 := (hF 92 (k : Int) rfl).trans e5
        constructor
        · intro c6
          refine And.intro (by show 0 ≤ _ ∧ _ < (40 : Int); omega) ?_
          refine s_102e hs ((hF 90 _ rfl).trans e3) (by (try simp only [List.length_append, List.length_cons, List.length_nil]); omega) (by omega) (fun _ hG hs => ?_)
          replace hF := hF.tr hG
          replace hc := hc.fr (fun _ => hG _ _ rfl) (fun _ => hG _ _ rfl)
          refine And.intro (by show 0 ≤ _ ∧ _ < (40 : Int); omega) ?_
          have y2 := (hF 89 (k : Int) rfl).trans e2
          have y5 := (hF 92 (k : Int) rfl).trans e5
          constructor
          · intro c7
            refine And.intro (by show 0 ≤ _ ∧ _ < (40 : Int); omega) ?_
            refine s_102e hs ((hF 91 _ rfl).trans e4) (by (try simp only [List.length_append, List.length_cons, List.length_nil]); omega) (by omega) (fun _ hG hs => ?_)
            replace hF := hF.tr hG
            replace hc := hc.fr (fun _ => hG _ _ rfl) (fun _ => hG _ _ rfl)
            refine s_97 hs (by (try simp only [List.length_append, List.length_cons, List.length_nil]); omega) (fun h9 hG hs => ?_)
            replace hF := hF.tr hG
            replace hc := hc.fr (fun _ => hG _ _ rfl) (fun _ => hG _ _ rfl)
            have hic : i = c := by omega
            subst hic
            first
            | (exfalso; omega)
            | (have t0 : W.2.1 k 2 = 2 := by omega
               have hz : zPg h9 (zshw W k) := by
                 rw [zshw, hct]
                 simpa [zent, zew, t0] using hs
               have hr := hq _ hF hz
               rw [← hz.1] at hr
               exact hr)
            | (have t0 : W.2.1 k 2 = 0 := by omega
               have hz : zPg h9 (zshw W k) := by
                 rw [zshw, hct]
                 simpa [zent, zew, t0] using hs
               have hr := hq _ hF hz
               rw [← hz.1] at hr
               exact hr)
            | (have t0 : W.2.1 k 2 = 1 := by omega
               have hz : zPg h9 (zshw W k) := by
                 rw [zshw, hct]
                 simpa [zent, zew, t0] using hs
               have hr := hq _ hF hz
               rw [← hz.1] at hr
               exact hr)
          · intro c7
            refine s_97 hs (by (try simp only [List.length_append, List.length_cons, List.length_nil]); omega) (fun h9 hG hs => ?_)
            replace hF := hF.tr hG
            replace hc := hc.fr (fun _ => hG _ _ rfl) (fun _ => hG _ _ rfl)
            have hic : i = c := by omega
            subst hic
            first
            | (exfalso; omega)
            | (have t0 : W.2.1 k 2 = 2 := by omega
               have hz : zPg h9 (zshw W k) := by
                 rw [zshw, hct]
                 simpa [zent, zew, t0] using hs
               have hr := hq _ hF hz
               rw [← hz.1] at hr
               exact hr)
            | (have t0 : W.2.1 k 2 = 0 := by omega
               have hz : zPg h9 (zshw W k) := by
                 rw [zshw, hct]
                 simpa [zent, zew, t0] using hs
               have hr := hq _ hF hz
               rw [← hz.1] at hr
               exact hr)
            | (have t0 : W.2.1 k 2 = 1 := by omega
               have hz : zPg h9 (zshw W k) := by
                 rw [zshw, hct]
                 simpa [zent, zew, t0] using hs
               have hr := hq _ hF hz
               rw [← hz.1] at hr
               exact hr)
        · intro c6
          refine And.intro (by show 0 ≤ _ ∧ _ < (40 : Int); omega) ?_
          have y2 := (hF 89 (k : Int) rfl).trans e2
          have y5 := (hF 92 (k : Int) rfl).trans e5
          constructor
          · intro c8
            refine And.intro (by show 0 ≤ _ ∧ _ < (40 : Int); omega) ?_
            refine s_102e hs ((hF 91 _ rfl).trans e4) (by (try simp only [List.length_append, List.length_cons, List.length_nil]); omega) (by omega) (fun _ hG hs => ?_)
            replace hF := hF.tr hG
            replace hc := hc.fr (fun _ => hG _ _ rfl) (fun _ => hG _ _ rfl)
            refine s_97 hs (by (try simp only [List.length_append, List.length_cons, List.length_nil]); omega) (fun h9 hG hs => ?_)
            replace hF := hF.tr hG
            replace hc := hc.fr (fun _ => hG _ _ rfl) (fun _ => hG _ _ rfl)
            have hic : i = c := by omega
            subst hic
            first
            | (exfalso; omega)
            | (have t0 : W.2.1 k 2 = 2 := by omega
               have hz : zPg h9 (zshw W k) := by
                 rw [zshw, hct]
                 simpa [zent, zew, t0] using hs
               have hr := hq _ hF hz
               rw [← hz.1] at hr
               exact hr)
            | (have t0 : W.2.1 k 2 = 0 := by omega
               have hz : zPg h9 (zshw W k) := by
                 rw [zshw, hct]
                 simpa [zent, zew, t0] using hs
               have hr := hq _ hF hz
               rw [← hz.1] at hr
               exact hr)
            | (have t0 : W.2.1 k 2 = 1 := by omega
               have hz : zPg h9 (zshw W k) := by
                 rw [zshw, hct]
                 simpa [zent, zew, t0] using hs
               have hr := hq _ hF hz
               rw [← hz.1] at hr
               exact hr)
          · intro c8
            refine s_97 hs (by (try simp only [List.length_append, List.length_cons, List.length_nil]); omega) (fun h9 hG hs => ?_)
            replace hF := hF.tr hG
            replace hc := hc.fr (fun _ => hG _ _ rfl) (fun _ => hG _ _ rfl)
            have hic : i = c := by omega
            subst hic
            first
            | (exfalso; omega)
            | (have t0 : W.2.1 k 2 = 2 := by omega
               have hz : zPg h9 (zshw W k) := by
                 rw [zshw, hct]
                 simpa [zent, zew, t0] using hs
               have hr := hq _ hF hz
               rw [← hz.1] at hr
               exact hr)
            | (have t0 : W.2.1 k 2 = 0 := by omega
               have hz : zPg h9 (zshw W k) := by
                 rw [zshw, hct]
                 simpa [zent, zew, t0] using hs
               have hr := hq _ hF hz
               rw [← hz.1] at hr
               exact hr)
            | (have t0 : W.2.1 k 2 = 1 := by omega
               have hz : zPg h9 (zshw W k) := by
                 rw [zshw, hct]
                 simpa [zent, zew, t0] using hs
               have hr := hq _ hF hz
               rw [← hz.1] at hr
               exact hr)
