/-! RUNS of the reference -/
def zMr (h : zM) (s : zRs) : Prop := h 81 31 = s.2.1 ∧ h 81 32 = (s.2.2.1 : Int) ∧ h 81 34 = (s.2.2.2 : Int) ∧ ∀ v, 0 ≤ v → v < 6 → h 99 v = s.1 v
def zMd (h : zM) (r : zRr) : Prop := zMr h r.1 ∧ h 81 33 = (r.2.2.1 : Int) ∧ h 81 35 = (if r.2.2.2 = true then 1 else 0)
def zMf1 : Nat → Int → Bool := fun r k => Nat.beq r 99 || (Nat.beq r 81 && (decide (k = 31) || decide (k = 32) || decide (k = 34)))
def zMf : Nat → Int → Bool := fun r k => Nat.beq r 99 || (Nat.beq r 81 && (decide (k = 31) || decide (k = 32) || decide (k = 33) || decide (k = 34) || decide (k = 35)))
theorem zMf_1 {h h2 : zM} (hF : zF zMf1 h h2) : zF zMf h h2 := hF.mono (fun r k hf => by
  unfold zMf at hf
  unfold zMf1
  simp only [Bool.or_eq_false_iff, Bool.and_eq_false_iff] at hf ⊢
  rcases hf with ⟨a, b | b⟩
  · exact ⟨a, Or.inl b⟩
  · exact ⟨a, Or.inr ⟨⟨b.1.1.1.1, b.1.1.1.2⟩, b.1.2⟩⟩)
theorem zMr.set {h : zM} {s : zRs} (hc : zMr h s) {t : Nat → Int} (h0 : t 0 = 0) {x y : Int} (hx : x = zres (t 3) (zval s.1 (t 2)) (zval s.1 (t 4))) (hy : y = h 81 34 + 1) : zMr (zx_st (zx_st h 99 (t 1) x) 81 34 y) (zdo1 t s) := by
  obtain ⟨c1, c2, c3, c4⟩ := hc
  unfold zdo1
  rw [if_pos h0]
  refine ⟨?_, ?_, ?_, fun v v0 v1 => ?_⟩
  · rw [zst_ne (by decide), zst_nr (by omega)]; exact c1
  · rw [zst_ne (by decide), zst_nr (by omega)]; exact c2
  · rw [zst_eq, hy, c3]; rfl
  · rw [zst_nr (by omega)]
    show zx_st h 99 (t 1) x 99 v = if v = t 1 then _ else s.1 v
    split
    · rename_i e; rw [e, zst_eq, hx]
    · rename_i e; rw [zst_ne e]; exact c4 v v0 v1
theorem zMr.say {h : zM} {s : zRs} (hc : zMr h s) {t : Nat → Int} (h0 : ¬ t 0 = 0) {x y z : Int} (hx : x = zx_wr (zx_wr (zx_wr (31 * h 81 31) + zval s.1 (t 2)) + 1)) (hy : y = h 81 32 + 1) (hz : z = h 81 34 + 1) : zMr (zx_st (zx_st (zx_st h 81 31 x) 81 32 y) 81 34 z) (zdo1 t s) := by
  obtain ⟨c1, c2, c3, c4⟩ := hc
  unfold zdo1
  rw [if_neg h0]
  refine ⟨?_, ?_, ?_, fun v v0 v1 => ?_⟩
  · rw [zst_ne (by decide), zst_ne (by decide), zst_eq, hx, c1, Int.mul_comm]
  · rw [zst_ne (by decide), zst_eq, hy, c2]; rfl
  · rw [zst_eq, hz, c3]; rfl
  · rw [zst_nr (by omega), zst_nr (by omega), zst_nr (by omega)]; exact c4 v v0 v1
theorem s_108t {f : Int → Int} {h : zM} (hv : ∀ v, 0 ≤ v → v < 6 → h 99 v = f v) {o : Int} (ho : 0 ≤ o ∧ o < 106) {Q : zQ} (hq : Q (some (.inl (zval f o))) h) : zR 108 [.inr (.inr 81), .inl o] h Q := by
  refine s_108 ho (fun c => ?_) (fun c => ?_)
  · rw [zval, if_pos (by omega)] at hq
    exact hq
  · rw [zval, if_neg (by omega)] at hq
    rw [hv _ (by omega) (by omega)]
    exact hq
set_option maxHeartbeats 4000000 in
set_option maxRecDepth 100000 in
/-- M.does -/
theorem s_109 {h : zM} {t : Nat → Int} (ht : zWS t) {x0 x1 x2 x3 x4 : Int} (e0 : x0 = t 0) (e1 : x1 = t 1) (e2 : x2 = t 2) (e3 : x3 = t 3) (e4 : x4 = t 4) {s : zRs} (hc : zMr h s) (hb : zRb s 7224) {Q : zQ} (hq : ∀ h2, zF zMf1 h h2 → zMr h2 (zdo1 t s) → Q none h2) : zR 109 [.inr (.inr 81), .inl x0, .inl x1, .inl x2, .inl x3, .inl x4] h Q := by
  subst e0
  subst e1
  subst e2
  subst e3
  subst e4
  have ht2 := ht
  unfold zWS at ht2
  obtain ⟨d1, d2, d3, d4⟩ := hc
  have hb2 := hb.2.1
  have hb3 := hb.2.2
  refine zx_met0 zk_109 (Or.inr ⟨_, _, rfl, rfl⟩) (Nat.le_of_ble_eq_true rfl) 1000 (fun hok hM => ?_)
  constructor
  · intro c1
    refine s_108t d4 (by omega) ?_
    refine s_108t d4 (by omega) ?_
    refine s_77 (zval_b hb.1 (by omega)) (zval_b hb.1 (by omega)) ?_
    refine And.intro (by show 0 ≤ _ ∧ _ < (6 : Int); omega) ?_
    refine And.intro (by first | omega | (simp only [zx_st]; simp; omega)) ?_
    first
    | exact hq _ ((zF.rf.st rfl).st rfl) (zMr.set ⟨d1, d2, d3, d4⟩ (by omega) rfl (by simp [zx_st]))
    | exact hq _ (((zF.rf.st rfl).st rfl).st rfl) (zMr.say ⟨d1, d2, d3, d4⟩ (by omega) rfl (by simp [zx_st]) (by simp [zx_st]))
  · intro c1
    refine s_108t d4 (by omega) ?_
    refine And.intro (by first | omega | (simp only [zx_st]; simp; omega)) ?_
    refine And.intro (by first | omega | (simp only [zx_st]; simp; omega)) ?_
    first
    | exact hq _ ((zF.rf.st rfl).st rfl) (zMr.set ⟨d1, d2, d3, d4⟩ (by omega) rfl (by simp [zx_st]))
    | exact hq _ (((zF.rf.st rfl).st rfl).st rfl) (zMr.say ⟨d1, d2, d3, d4⟩ (by omega) rfl (by simp [zx_st]) (by simp [zx_st]))
theorem zMr.w {h : zM} {s : zRs} (hc : zMr h s) (x : Int) : zMr (zx_st h 81 33 x) s := by
  obtain ⟨c1, c2, c3, c4⟩ := hc
  refine ⟨?_, ?_, ?_, fun v v0 v1 => ?_⟩
  · rw [zst_ne (by decide)]; exact c1
  · rw [zst_ne (by decide)]; exact c2
  · rw [zst_ne (by decide)]; exact c3
  · rw [zst_nr (by omega)]; exact c4 v v0 v1
theorem zMr.w5 {h : zM} {s : zRs} (hc : zMr h s) (x : Int) : zMr (zx_st h 81 35 x) s := by
  obtain ⟨c1, c2, c3, c4⟩ := hc
  refine ⟨?_, ?_, ?_, fun v v0 v1 => ?_⟩
  · rw [zst_ne (by decide)]; exact c1
  · rw [zst_ne (by decide)]; exact c2
  · rw [zst_ne (by decide)]; exact c3
  · rw [zst_nr (by omega)]; exact c4 v v0 v1
set_option maxHeartbeats 4000000 in
set_option maxRecDepth 100000 in
/-- M.startsRun -/
theorem s_110 {h : zM} (hg : ∀ v, 0 ≤ v → v < 6 → 0 ≤ h 82 (168 + v) ∧ h 82 (168 + v) ≤ 100) {f : Int → Int} (hf : ∀ v, 0 ≤ v → v < 6 → f v = if 0 < h 82 (168 + v) then h 82 (168 + v) - 1 else h 101 v) {Q : zQ} (hq : ∀ h2, zF zMf h h2 → zMr h2 (f, 0, 0, 0) → h2 81 33 = 0 → h2 81 35 = 0 → Q none h2) : zR 110 [.inr (.inr 81)] h Q := by
  refine zx_met zk_110 (Or.inr ⟨_, _, rfl, rfl⟩) (Nat.le_of_ble_eq_true rfl) (fun _ => false) 1000 (fun m j L S h2 => j = 17 ∧ S = [] ∧ ∃ k : Nat, L = [some (.inr (.inr 81)), some (.inl (k : Int))] ∧ k ≤ 6 ∧ m = 6 - k ∧ zF zMf h h2 ∧ h2 81 31 = 0 ∧ h2 81 32 = 0 ∧ h2 81 33 = 0 ∧ h2 81 34 = 0 ∧ h2 81 35 = 0 ∧ ∀ v, 0 ≤ v → v < (k : Int) → h2 99 v = f v) (fun hok hM => ?_) (fun hok hM => ?_)
  · refine And.intro (by first | exact Or.inl rfl | exact Or.inr rfl | omega) ?_
    exact ⟨6, rfl, rfl, 0, rfl, by omega, rfl, ((((zF.rf.st rfl).st rfl).st rfl).st rfl).st rfl, by simp [zx_st], by simp [zx_st], by simp [zx_st], by simp [zx_st], by simp [zx_st], fun v h0 h1 => by omega⟩
  · rintro m j L S h2 hM2 ⟨rfl, rfl, k, rfl, hk, hm, hF, a1, a2, a3, a4, a5, hv⟩
    have g := hg (k : Int) (by omega)
    have g2 : h2 82 (168 + (k : Int)) = h 82 (168 + (k : Int)) := hF _ _ rfl
    have hfk := hf (k : Int) (by omega)
    constructor
    · intro c1
      refine And.intro (by omega) ?_
      refine And.intro (by first | (show 0 ≤ _ ∧ _ < (6 : Int); omega) | (show 0 ≤ _ ∧ _ < (708 : Int); omega)) ?_
      constructor
      · intro c2
        refine And.intro (by omega) ?_
        refine And.intro (by first | (show 0 ≤ _ ∧ _ < (6 : Int); omega) | (show 0 ≤ _ ∧ _ < (708 : Int); omega)) ?_
        refine And.intro (by omega) ?_
        refine And.intro (by first | (show 0 ≤ _ ∧ _ < (6 : Int); omega) | (show 0 ≤ _ ∧ _ < (708 : Int); omega)) ?_
        refine And.intro (by omega) ?_
        refine ⟨6 - (k + 1), by omega, rfl, rfl, k + 1, rfl, by omega, rfl, hF.st rfl, a1, a2, a3, a4, a5, zfill hv ?_⟩
        rw [hfk (by omega)]
        first
        | (rw [if_pos (by omega), g2])
        | (rw [if_neg (by omega)]; exact hF _ _ rfl)
      · intro c2
        refine And.intro (by first | (show 0 ≤ _ ∧ _ < (6 : Int); omega) | (show 0 ≤ _ ∧ _ < (708 : Int); omega)) ?_
        refine And.intro (by first | (show 0 ≤ _ ∧ _ < (6 : Int); omega) | (show 0 ≤ _ ∧ _ < (708 : Int); omega)) ?_
        refine And.intro (by omega) ?_
        refine ⟨6 - (k + 1), by omega, rfl, rfl, k + 1, rfl, by omega, rfl, hF.st rfl, a1, a2, a3, a4, a5, zfill hv ?_⟩
        rw [hfk (by omega)]
        first
        | (rw [if_pos (by omega), g2])
        | (rw [if_neg (by omega)]; exact hF _ _ rfl)
    · intro c1
      have k6 : k = 6 := by omega
      subst k6
      exact hq _ hF ⟨a1, a2, a4, hv⟩ a3 a5
/-- the reference's program is W -/
def zVs (h : zM) (W : zW) : Prop := h 82 175 = (W.1 : Int) ∧ W.1 ≤ 8 ∧ ∀ p : Nat, p < W.1 → (∀ w : Nat, 0 < w → w < 6 → h 82 (120 + 8 * (w : Int) + (p : Int)) = W.2.1 p w) ∧ 0 ≤ h 82 (120 + (p : Int)) ∧ h 82 (120 + (p : Int)) + W.2.1 p 1 ≤ 24 ∧ ∀ i w : Nat, (i : Int) < W.2.1 p 1 → w < 5 → h 82 (24 * (w : Int) + (h 82 (120 + (p : Int)) + (i : Int))) = W.2.2 p i w
theorem zVs.fr {h h2 : zM} {W : zW} (hv : zVs h W) (e : ∀ k, h2 82 k = h 82 k) : zVs h2 W := by
  obtain ⟨a, b, c⟩ := hv
  refine ⟨by rw [e]; exact a, b, fun p hp => ?_⟩
  obtain ⟨c1, c2, c3, c4⟩ := c p hp
  rw [e (120 + (p : Int))]
  exact ⟨fun w h0 hw => by rw [e]; exact c1 w h0 hw, c2, c3, fun i w hi hw => by rw [e]; exact c4 i w hi hw⟩
theorem zMd_n {h2 h4 : zM} {r : zRr} {W : zW} (hr : r.2.2.2 = false) {s : zRs} (hs : s = zdos (W.2.2 r.2.1) (W.2.1 r.2.1 1).toNat r.1) (hc : zMr h4 s) (h3 : h4 81 33 = (r.2.2.1 : Int) + 1) (h5 : h4 81 35 = if W.2.1 r.2.1 2 = 2 then 1 else 0) : zMd h4 (zrd W r) := by
  subst hs
  rw [zrd, if_neg (by rw [hr]; decide), zrd1]
  split
  · rename_i e2
    rw [if_pos e2] at h5
    exact ⟨hc, h3, h5⟩
  · rename_i e2
    rw [if_neg e2] at h5
    exact ⟨hc, h3, h5⟩
theorem zMd_ns {h : zM} {r : zRr} (hr : zMd h r) (h0 : h 81 35 = 0) : r.2.2.2 = false := by
  have := hr.2.2
  cases e : r.2.2.2
  · rfl
  · rw [e, if_pos rfl] at this
    omega
theorem zMd_sp {h : zM} {r : zRr} (hr : zMd h r) (h0 : ¬ h 81 35 = 0) : r.2.2.2 = true := by
  have := hr.2.2
  cases e : r.2.2.2
  · rw [e, if_neg (by decide)] at this
    omega
  · rfl
theorem zrd_st {W : zW} {r : zRr} (hst : r.2.2.2 = false) (e2 : W.2.1 r.2.1 2 = 2) : (zrd W r).2.2.2 = true := by
  rw [zrd, if_neg (by rw [hst]; decide), zrd1, if_pos e2]
theorem zVs.at {h : zM} {W : zW} (hv : zVs h W) {p : Nat} (hp : p < W.1) (w : Nat) {x : Int} (h0 : 0 < w) (hw : w < 6) (hx : x = 120 + 8 * (w : Int) + (p : Int)) : h 82 x = W.2.1 p w := by
  rw [hx]
  exact (hv.2.2 p hp).1 w h0 hw
theorem zVs.pt {h : zM} {W : zW} (hv : zVs h W) {p : Nat} (hp : p < W.1) {i : Nat} (hi : (i : Int) < W.2.1 p 1) (w : Nat) {x : Int} (hw : w < 5) (hx : x = 24 * (w : Int) + (h 82 (120 + (p : Int)) + (i : Int))) : h 82 x = W.2.2 p i w := by
  rw [hx]
  exact (hv.2.2 p hp).2.2.2 i w hi hw
set_option maxHeartbeats 4000000 in
set_option maxRecDepth 100000 in
/-- M.runsProgram -/
theorem s_111 {h : zM} {W : zW} (hv : zVs h W) (hw : zWw W) (hg : ∀ v, 0 ≤ v → v < 6 → 0 ≤ h 82 (168 + v) ∧ h 82 (168 + v) ≤ 100) {f : Int → Int} (hf : ∀ v, 0 ≤ v → v < 6 → f v = if 0 < h 82 (168 + v) then h 82 (168 + v) - 1 else h 101 v) (hfb : ∀ v, 0 ≤ v → v < 6 → 0 ≤ f v ∧ f v ≤ 99) {Q : zQ} (hq : ∀ h2, zF zMf h h2 → zMd h2 (zrn W f 300) → Q none h2) : zR 111 [.inr (.inr 81)] h Q := by
  have hv0 := hv.1
  have hn8 := hv.2.1
  refine zx_met zk_111 (Or.inr ⟨_, _, rfl, rfl⟩) (Nat.le_of_ble_eq_true rfl) (fun x => Nat.beq x 78 || Nat.beq x 93) 1000 (fun m j L S h2 => (j = 14 ∧ S = [] ∧ ∃ (i : Nat) (p : Int) (q2 q3 : Option zV), L = [some (.inr (.inr 81)), some (.inl p), q2, q3] ∧ i ≤ 300 ∧ m = (300 - i) * 100 + 50 ∧ zF zMf h h2 ∧ zMd h2 (zrn W f i) ∧ ((zrn W f i).2.2.2 = false → p = ((zrn W f i).2.1 : Int))) ∨
    (j = 23 ∧ S = [] ∧ ∃ (i k : Nat) (q3 : Option zV), L = [some (.inr (.inr 81)), some (.inl ((zrn W f i).2.1 : Int)), some (.inl (k : Int)), q3] ∧ i < 300 ∧ (zrn W f i).2.2.2 = false ∧ k ≤ (W.2.1 (zrn W f i).2.1 1).toNat ∧ m = (300 - i) * 100 + 26 - k ∧ zF zMf h h2 ∧ zMr h2 (zdos (W.2.2 (zrn W f i).2.1) k (zrn W f i).1) ∧ h2 81 33 = (i : Int) ∧ h2 81 35 = 0) ∨
    (j = 78 ∧ S = [] ∧ ∃ (i : Nat) (q2 q3 : Option zV), L = [some (.inr (.inr 81)), some (.inl ((zrn W f i).2.1 : Int)), q2, q3] ∧ i < 300 ∧ (zrn W f i).2.2.2 = false ∧ m = (300 - i) * 100 + 1 ∧ zF zMf h h2 ∧ zMr h2 (zdos (W.2.2 (zrn W f i).2.1) (W.2.1 (zrn W f i).2.1 1).toNat (zrn W f i).1) ∧ h2 81 33 = (i : Int) + 1 ∧ h2 81 35 = 0) ∨
    (j = 93 ∧ S = [] ∧ ∃ (i : Nat) (x2 q3 : Option zV), L = [some (.inr (.inr 81)), some (.inl ((zrn W f i).2.1 : Int)), x2, q3] ∧ i < 300 ∧ (zrn W f i).2.2.2 = false ∧ x2 = some (.inl (W.2.1 (zrn W f i).2.1 2)) ∧ m = (300 - i) * 100 ∧ zF zMf h h2 ∧ zMd h2 (zrn W f (i + 1)))) (fun hok hM => ?_) (fun hok hM => ?_)
  · refine s_110 hg hf (fun h2 hF hc r3 r5 => ?_)
    have hv2 := (hv.fr (h2 := h2) (fun _ => hF _ _ rfl)).1
    refine And.intro (by first | (show 0 ≤ _ ∧ _ < (708 : Int); omega) | (show 0 ≤ _ ∧ _ < (6 : Int); omega)) ?_
    constructor
    · intro c1
      refine And.intro (by first | exact Or.inl rfl | exact Or.inr rfl | omega) ?_
      first
      | (exact ⟨(300 - 0) * 100 + 50, Or.inl ⟨rfl, rfl, 0, _, _, _, rfl, by omega, rfl, hF.st rfl, ⟨hc.w5 _, by rw [zst_ne (by decide), r3]; rfl, by
           rw [zst_eq]
           show _ = if decide (W.1 = 0) = true then _ else _
           by_cases e : W.1 = 0
           · simp [e] <;> omega
           · simp [e] <;> omega⟩, fun _ => rfl⟩⟩)
      | (refine ⟨(300 - (i + 1)) * 100 + 50, by omega, Or.inl ⟨rfl, rfl, i + 1, _, _, _, rfl, by omega, rfl, hF, hr, fun q => ?_⟩⟩
         have q : (zrd W (zrn W f i)).2.2.2 = false := q
         have e2 : ¬ W.2.1 (zrn W f i).2.1 2 = 2 := fun e => by rw [zrd_st (r := zrn W f i) hst e] at q; cases q
         refine Eq.trans ?_ (zrd_p (r := zrn W f i) hw hst o2 e2)
         rw [← hre]
         first
         | (rw [if_pos (by omega)]; assumption)
         | (rw [if_neg (by omega)]; assumption)
         | (exfalso; omega))
    · intro c1
      refine And.intro (by first | exact Or.inl rfl | exact Or.inr rfl | omega) ?_
      first
      | (exact ⟨(300 - 0) * 100 + 50, Or.inl ⟨rfl, rfl, 0, _, _, _, rfl, by omega, rfl, hF.st rfl, ⟨hc.w5 _, by rw [zst_ne (by decide), r3]; rfl, by
           rw [zst_eq]
           show _ = if decide (W.1 = 0) = true then _ else _
           by_cases e : W.1 = 0
           · simp [e] <;> omega
           · simp [e] <;> omega⟩, fun _ => rfl⟩⟩)
      | (refine ⟨(300 - (i + 1)) * 100 + 50, by omega, Or.inl ⟨rfl, rfl, i + 1, _, _, _, rfl, by omega, rfl, hF, hr, fun q => ?_⟩⟩
         have q : (zrd W (zrn W f i)).2.2.2 = false := q
         have e2 : ¬ W.2.1 (zrn W f i).2.1 2 = 2 := fun e => by rw [zrd_st (r := zrn W f i) hst e] at q; cases q
         refine Eq.trans ?_ (zrd_p (r := zrn W f i) hw hst o2 e2)
         rw [← hre]
         first
         | (rw [if_pos (by omega)]; assumption)
         | (rw [if_neg (by omega)]; assumption)
         | (exfalso; omega))
  · rintro n i L S h2 hM2 (hI | hI | hI | hI)
    · obtain ⟨rfl, rfl, i, p, q2, q3, rfl, hi, hm, hF, hr, hp⟩ := hI
      have ho := zrn_o hw hfb i
      have r3 := hr.2.1
      constructor
      · intro c2
        constructor
        · intro c3
          first
          | (refine ⟨(300 - i) * 100 + 26 - (k + 1), by omega, Or.inr (Or.inl ⟨rfl, rfl, i, k + 1, _, rfl, hi, hst, by omega, rfl, hF.tr (zMf_1 hG), hc3, (hG 81 33 rfl).trans r3, (hG 81 35 rfl).trans r5⟩)⟩)
          | (have hst := zMd_ns hr (by assumption)
             have hp := hp hst
             subst hp
             have o1 := (ho.2.2 hst).1
             exact ⟨(300 - i) * 100 + 26 - 0, by omega, Or.inr (Or.inl ⟨rfl, rfl, i, 0, _, rfl, by omega, hst, by omega, rfl, hF, hr.1, by omega, by assumption⟩)⟩)
        · intro c3
          first
          | (have e3 : zrn W f i = zrn W f 300 := zrn_300 hi (Or.inr (zMd_sp hr (by assumption)))
             rw [e3] at hr
             exact hq _ hF hr)
          | (have hst := zMd_ns hr (by assumption)
             have o1 := (ho.2.2 hst).1
             have e3 : zrn W f i = zrn W f 300 := zrn_300 hi (Or.inl (by omega))
             rw [e3] at hr
             exact hq _ hF hr)
      · intro c2
        first
        | (have e3 : zrn W f i = zrn W f 300 := zrn_300 hi (Or.inr (zMd_sp hr (by assumption)))
           rw [e3] at hr
           exact hq _ hF hr)
        | (have hst := zMd_ns hr (by assumption)
           have o1 := (ho.2.2 hst).1
           have e3 : zrn W f i = zrn W f 300 := zrn_300 hi (Or.inl (by omega))
           rw [e3] at hr
           exact hq _ hF hr)
    · obtain ⟨rfl, rfl, i, k, q3, rfl, hi, hst, hk, hm, hF, hc2, r3, r5⟩ := hI
      have ho := zrn_o hw hfb i
      obtain ⟨o1, o2⟩ := ho.2.2 hst
      have hv2 := hv.fr (h2 := h2) (fun _ => hF _ _ rfl)
      have hcn := (hw.2 _ o2).1
      have he := (hw.2 _ o2).2.1
      unfold zWE at he
      have e1 : h2 82 (128 + ((zrn W f i).2.1 : Int)) = _ := hv2.at o2 1 (by omega) (by omega) (by omega)
      obtain ⟨-, s0, s1, -⟩ := hv2.2.2 _ o2
      refine And.intro (by omega) ?_
      refine And.intro (by first | (show 0 ≤ _ ∧ _ < (708 : Int); omega) | (show 0 ≤ _ ∧ _ < (6 : Int); omega)) ?_
      constructor
      · intro c4
        refine And.intro (by omega) ?_
        refine And.intro (by first | (show 0 ≤ _ ∧ _ < (708 : Int); omega) | (show 0 ≤ _ ∧ _ < (6 : Int); omega)) ?_
        refine And.intro (by omega) ?_
        refine And.intro (by first | (show 0 ≤ _ ∧ _ < (708 : Int); omega) | (show 0 ≤ _ ∧ _ < (6 : Int); omega)) ?_
        refine And.intro (by omega) ?_
        refine And.intro (by first | (show 0 ≤ _ ∧ _ < (708 : Int); omega) | (show 0 ≤ _ ∧ _ < (6 : Int); omega)) ?_
        refine And.intro (by omega) ?_
        refine And.intro (by first | (show 0 ≤ _ ∧ _ < (708 : Int); omega) | (show 0 ≤ _ ∧ _ < (6 : Int); omega)) ?_
        refine And.intro (by omega) ?_
        refine And.intro (by first | (show 0 ≤ _ ∧ _ < (708 : Int); omega) | (show 0 ≤ _ ∧ _ < (6 : Int); omega)) ?_
        refine And.intro (by omega) ?_
        refine And.intro (by first | (show 0 ≤ _ ∧ _ < (708 : Int); omega) | (show 0 ≤ _ ∧ _ < (6 : Int); omega)) ?_
        have hkc : (k : Int) < W.2.1 (zrn W f i).2.1 1 := by omega
        have hb := zdos_b (T := W.2.2 (zrn W f i).2.1) ho.1 k (fun x hx => (hw.2 _ o2).2.2 x (by omega))
        refine s_109 ((hw.2 _ o2).2.2 k hkc) (hv2.pt o2 hkc 0 (by omega) (by omega)) (hv2.pt o2 hkc 1 (by omega) (by omega)) (hv2.pt o2 hkc 2 (by omega) (by omega)) (hv2.pt o2 hkc 3 (by omega) (by omega)) (hv2.pt o2 hkc 4 (by omega) (by omega)) hc2 (hb.mono (by omega)) (fun h3 hG hc3 => ?_)
        refine And.intro (by omega) ?_
        first
        | (refine ⟨(300 - i) * 100 + 26 - (k + 1), by omega, Or.inr (Or.inl ⟨rfl, rfl, i, k + 1, _, rfl, hi, hst, by omega, rfl, hF.tr (zMf_1 hG), hc3, (hG 81 33 rfl).trans r3, (hG 81 35 rfl).trans r5⟩)⟩)
        | (have hst := zMd_ns hr (by assumption)
           have hp := hp hst
           subst hp
           have o1 := (ho.2.2 hst).1
           exact ⟨(300 - i) * 100 + 26 - 0, by omega, Or.inr (Or.inl ⟨rfl, rfl, i, 0, _, rfl, by omega, hst, by omega, rfl, hF, hr.1, by omega, by assumption⟩)⟩)
      · intro c4
        refine And.intro (by omega) ?_
        have hk2 : k = (W.2.1 (zrn W f i).2.1 1).toNat := by omega
        subst hk2
        exact ⟨(300 - i) * 100 + 1, by omega, Or.inr (Or.inr (Or.inl ⟨rfl, rfl, i, _, _, rfl, hi, hst, rfl, hF.st rfl, hc2.w _, by rw [zst_eq, r3], by rw [zst_ne (by decide)]; exact r5⟩))⟩
    · obtain ⟨rfl, rfl, i, q2, q3, rfl, hi, hst, hm, hF, hc2, r3, r5⟩ := hI
      have ho := zrn_o hw hfb i
      obtain ⟨o1, o2⟩ := ho.2.2 hst
      have hv2 := hv.fr (h2 := h2) (fun _ => hF _ _ rfl)
      have hcn := (hw.2 _ o2).1
      have he := (hw.2 _ o2).2.1
      unfold zWE at he
      have e2 : h2 82 (136 + ((zrn W f i).2.1 : Int)) = _ := hv2.at o2 2 (by omega) (by omega) (by omega)
      refine And.intro (by omega) ?_
      refine And.intro (by first | (show 0 ≤ _ ∧ _ < (708 : Int); omega) | (show 0 ≤ _ ∧ _ < (6 : Int); omega)) ?_
      constructor
      · intro c5
        refine And.intro (by first | exact Or.inl rfl | exact Or.inr rfl | omega) ?_
        refine ⟨(300 - i) * 100, by omega, Or.inr (Or.inr (Or.inr ⟨rfl, rfl, i, _, _, rfl, hi, hst, by rw [e2], rfl, hF.st rfl, zMd_n (h2 := h2) (r := zrn W f i) hst rfl (hc2.w5 _) (by rw [zst_ne (by decide)]; omega) ?_⟩))⟩
        rw [zst_eq]
        first
        | (rw [if_pos (by omega)])
        | (rw [if_neg (by omega)])
      · intro c5
        refine And.intro (by first | exact Or.inl rfl | exact Or.inr rfl | omega) ?_
        refine ⟨(300 - i) * 100, by omega, Or.inr (Or.inr (Or.inr ⟨rfl, rfl, i, _, _, rfl, hi, hst, by rw [e2], rfl, hF.st rfl, zMd_n (h2 := h2) (r := zrn W f i) hst rfl (hc2.w5 _) (by rw [zst_ne (by decide)]; omega) ?_⟩))⟩
        rw [zst_eq]
        first
        | (rw [if_pos (by omega)])
        | (rw [if_neg (by omega)])
    · obtain ⟨rfl, rfl, i, x2, q3, rfl, hi, hst, hx2, hm, hF, hr⟩ := hI
      have ho := zrn_o hw hfb i
      obtain ⟨o1, o2⟩ := ho.2.2 hst
      have hv2 := hv.fr (h2 := h2) (fun _ => hF _ _ rfl)
      have hcn := (hw.2 _ o2).1
      have he := (hw.2 _ o2).2.1
      unfold zWE at he
      have hrv := hr.1.2.2.2
      have hre : (zrn W f (i + 1)).1 = zdos (W.2.2 (zrn W f i).2.1) (W.2.1 (zrn W f i).2.1 1).toNat (zrn W f i).1 := by
        show (zrd W (zrn W f i)).1 = _
        rw [zrd, if_neg (by rw [hst]; decide), zrd1]
        split <;> rfl
      have e2 : h2 82 (136 + ((zrn W f i).2.1 : Int)) = _ := hv2.at o2 2 (by omega) (by omega) (by omega)
      have e3 : h2 82 (144 + ((zrn W f i).2.1 : Int)) = _ := hv2.at o2 3 (by omega) (by omega) (by omega)
      have e4 : h2 82 (152 + ((zrn W f i).2.1 : Int)) = _ := hv2.at o2 4 (by omega) (by omega) (by omega)
      have e5 : h2 82 (160 + ((zrn W f i).2.1 : Int)) = _ := hv2.at o2 5 (by omega) (by omega) (by omega)
      subst hx2
      constructor
      · intro c6
        refine And.intro (fun c => absurd c (by decide)) (fun _ => ?_)
        refine And.intro (by omega) ?_
        refine And.intro (by first | (show 0 ≤ _ ∧ _ < (708 : Int); omega) | (show 0 ≤ _ ∧ _ < (6 : Int); omega)) ?_
        first
        | (exact ⟨(300 - 0) * 100 + 50, Or.inl ⟨rfl, rfl, 0, _, _, _, rfl, by omega, rfl, hF.st rfl, ⟨hc.w5 _, by rw [zst_ne (by decide), r3]; rfl, by
             rw [zst_eq]
             show _ = if decide (W.1 = 0) = true then _ else _
             by_cases e : W.1 = 0
             · simp [e] <;> omega
             · simp [e] <;> omega⟩, fun _ => rfl⟩⟩)
        | (refine ⟨(300 - (i + 1)) * 100 + 50, by omega, Or.inl ⟨rfl, rfl, i + 1, _, _, _, rfl, by omega, rfl, hF, hr, fun q => ?_⟩⟩
           have q : (zrd W (zrn W f i)).2.2.2 = false := q
           have e2 : ¬ W.2.1 (zrn W f i).2.1 2 = 2 := fun e => by rw [zrd_st (r := zrn W f i) hst e] at q; cases q
           refine Eq.trans ?_ (zrd_p (r := zrn W f i) hw hst o2 e2)
           rw [← hre]
           first
           | (rw [if_pos (by omega)]; assumption)
           | (rw [if_neg (by omega)]; assumption)
           | (exfalso; omega))
      · intro c6
        constructor
        · intro c7
          refine And.intro (by omega) ?_
          refine And.intro (by first | (show 0 ≤ _ ∧ _ < (708 : Int); omega) | (show 0 ≤ _ ∧ _ < (6 : Int); omega)) ?_
          refine And.intro (by first | (show 0 ≤ _ ∧ _ < (708 : Int); omega) | (show 0 ≤ _ ∧ _ < (6 : Int); omega)) ?_
          rw [e5, hrv _ (by omega) (by omega)]
          constructor
          · intro c8
            refine And.intro (fun _ => ?_) (fun c => absurd (by decide) c)
            refine And.intro (by omega) ?_
            refine And.intro (by first | (show 0 ≤ _ ∧ _ < (708 : Int); omega) | (show 0 ≤ _ ∧ _ < (6 : Int); omega)) ?_
            first
            | (exact ⟨(300 - 0) * 100 + 50, Or.inl ⟨rfl, rfl, 0, _, _, _, rfl, by omega, rfl, hF.st rfl, ⟨hc.w5 _, by rw [zst_ne (by decide), r3]; rfl, by
                 rw [zst_eq]
                 show _ = if decide (W.1 = 0) = true then _ else _
                 by_cases e : W.1 = 0
                 · simp [e] <;> omega
                 · simp [e] <;> omega⟩, fun _ => rfl⟩⟩)
            | (refine ⟨(300 - (i + 1)) * 100 + 50, by omega, Or.inl ⟨rfl, rfl, i + 1, _, _, _, rfl, by omega, rfl, hF, hr, fun q => ?_⟩⟩
               have q : (zrd W (zrn W f i)).2.2.2 = false := q
               have e2 : ¬ W.2.1 (zrn W f i).2.1 2 = 2 := fun e => by rw [zrd_st (r := zrn W f i) hst e] at q; cases q
               refine Eq.trans ?_ (zrd_p (r := zrn W f i) hw hst o2 e2)
               rw [← hre]
               first
               | (rw [if_pos (by omega)]; assumption)
               | (rw [if_neg (by omega)]; assumption)
               | (exfalso; omega))
          · intro c8
            refine And.intro (fun c => absurd c (by decide)) (fun _ => ?_)
            refine And.intro (by omega) ?_
            refine And.intro (by first | (show 0 ≤ _ ∧ _ < (708 : Int); omega) | (show 0 ≤ _ ∧ _ < (6 : Int); omega)) ?_
            first
            | (exact ⟨(300 - 0) * 100 + 50, Or.inl ⟨rfl, rfl, 0, _, _, _, rfl, by omega, rfl, hF.st rfl, ⟨hc.w5 _, by rw [zst_ne (by decide), r3]; rfl, by
                 rw [zst_eq]
                 show _ = if decide (W.1 = 0) = true then _ else _
                 by_cases e : W.1 = 0
                 · simp [e] <;> omega
                 · simp [e] <;> omega⟩, fun _ => rfl⟩⟩)
            | (refine ⟨(300 - (i + 1)) * 100 + 50, by omega, Or.inl ⟨rfl, rfl, i + 1, _, _, _, rfl, by omega, rfl, hF, hr, fun q => ?_⟩⟩
               have q : (zrd W (zrn W f i)).2.2.2 = false := q
               have e2 : ¬ W.2.1 (zrn W f i).2.1 2 = 2 := fun e => by rw [zrd_st (r := zrn W f i) hst e] at q; cases q
               refine Eq.trans ?_ (zrd_p (r := zrn W f i) hw hst o2 e2)
               rw [← hre]
               first
               | (rw [if_pos (by omega)]; assumption)
               | (rw [if_neg (by omega)]; assumption)
               | (exfalso; omega))
        · intro c7
          refine And.intro (fun _ => ?_) (fun c => absurd (by decide) c)
          refine And.intro (by omega) ?_
          refine And.intro (by first | (show 0 ≤ _ ∧ _ < (708 : Int); omega) | (show 0 ≤ _ ∧ _ < (6 : Int); omega)) ?_
          first
          | (exact ⟨(300 - 0) * 100 + 50, Or.inl ⟨rfl, rfl, 0, _, _, _, rfl, by omega, rfl, hF.st rfl, ⟨hc.w5 _, by rw [zst_ne (by decide), r3]; rfl, by
               rw [zst_eq]
               show _ = if decide (W.1 = 0) = true then _ else _
               by_cases e : W.1 = 0
               · simp [e] <;> omega
               · simp [e] <;> omega⟩, fun _ => rfl⟩⟩)
          | (refine ⟨(300 - (i + 1)) * 100 + 50, by omega, Or.inl ⟨rfl, rfl, i + 1, _, _, _, rfl, by omega, rfl, hF, hr, fun q => ?_⟩⟩
             have q : (zrd W (zrn W f i)).2.2.2 = false := q
             have e2 : ¬ W.2.1 (zrn W f i).2.1 2 = 2 := fun e => by rw [zrd_st (r := zrn W f i) hst e] at q; cases q
             refine Eq.trans ?_ (zrd_p (r := zrn W f i) hw hst o2 e2)
             rw [← hre]
             first
             | (rw [if_pos (by omega)]; assumption)
             | (rw [if_neg (by omega)]; assumption)
             | (exfalso; omega))
theorem zVm.pt {h : zM} {W : zW} (hv : zVm h W) {p : Nat} (hp : p < W.1) {i : Nat} (hi : (i : Int) < W.2.1 p 1) (w : Nat) {x : Int} (hw : w < 5) (hx : x = 120 * (p : Int) + 5 * (i : Int) + (w : Int)) : h 94 x = W.2.2 p i w := by
  rw [hx]
  exact (hv.2 p hp).2.2.2.2.2 i w hi hw
theorem zMf_n {r : Nat} {k : Int} (h1 : 82 ≤ r) (h2 : r ≤ 98) : zMf r k = false := by
  have a : Nat.beq r 99 = false := zbeq_ne (by omega)
  have b : Nat.beq r 81 = false := zbeq_ne (by omega)
  unfold zMf
  rw [a, b]
  rfl
theorem zVm.M {h h2 : zM} {W : zW} (hv : zVm h W) (hF : zF zMf h h2) : zVm h2 W := hv.fr (hF _ _ rfl) (fun _ _ a b => hF _ _ (zMf_n (by omega) (by omega)))
set_option maxHeartbeats 4000000 in
set_option maxRecDepth 100000 in
/-- M.runsLeft -/
theorem s_112 {h : zM} {W : zW} (hv : zVm h W) (hw : zWw W) (hn0 : 0 < W.1) (hg : ∀ v, 0 ≤ v → v < 6 → 0 ≤ h 82 (168 + v) ∧ h 82 (168 + v) ≤ 100) {g f : Int → Int} (hgv : ∀ v, 0 ≤ v → v < 6 → g v = if 0 < h 82 (168 + v) then h 82 (168 + v) - 1 else h 101 v) (hf : ∀ v, 0 ≤ v → v < 6 → f v = if zx_and (zx_shr (h 81 12) v) 1 = 0 then 0 else g v) (hfb : ∀ v, 0 ≤ v → v < 6 → 0 ≤ f v ∧ f v ≤ 99) {Q : zQ} (hq : ∀ h2, zF zMf h h2 → zMd h2 (zrn W f 300) → Q none h2) : zR 112 [.inr (.inr 81)] h Q := by
  have hv0 := hv.1
  have hn8 := hw.1
  refine zx_met zk_112 (Or.inr ⟨_, _, rfl, rfl⟩) (Nat.le_of_ble_eq_true rfl) (fun x => Nat.beq x 90 || Nat.beq x 101) 1000 (fun m j L S h2 => (j = 29 ∧ S = [] ∧ ∃ (i : Nat) (p : Int) (q2 q3 : Option zV), L = [some (.inr (.inr 81)), some (.inl p), q2, q3] ∧ i ≤ 300 ∧ m = (300 - i) * 100 + 50 ∧ zF zMf h h2 ∧ zMd h2 (zrn W f i) ∧ ((zrn W f i).2.2.2 = false → p = ((zrn W f i).2.1 : Int))) ∨
    (j = 38 ∧ S = [] ∧ ∃ (i k : Nat) (q3 : Option zV), L = [some (.inr (.inr 81)), some (.inl ((zrn W f i).2.1 : Int)), some (.inl (k : Int)), q3] ∧ i < 300 ∧ (zrn W f i).2.2.2 = false ∧ k ≤ (W.2.1 (zrn W f i).2.1 1).toNat ∧ m = (300 - i) * 100 + 26 - k ∧ zF zMf h h2 ∧ zMr h2 (zdos (W.2.2 (zrn W f i).2.1) k (zrn W f i).1) ∧ h2 81 33 = (i : Int) ∧ h2 81 35 = 0) ∨
    (j = 90 ∧ S = [] ∧ ∃ (i : Nat) (q2 q3 : Option zV), L = [some (.inr (.inr 81)), some (.inl ((zrn W f i).2.1 : Int)), q2, q3] ∧ i < 300 ∧ (zrn W f i).2.2.2 = false ∧ m = (300 - i) * 100 + 1 ∧ zF zMf h h2 ∧ zMr h2 (zdos (W.2.2 (zrn W f i).2.1) (W.2.1 (zrn W f i).2.1 1).toNat (zrn W f i).1) ∧ h2 81 33 = (i : Int) + 1 ∧ h2 81 35 = 0) ∨
    (j = 101 ∧ S = [] ∧ ∃ (i : Nat) (x2 q3 : Option zV), L = [some (.inr (.inr 81)), some (.inl ((zrn W f i).2.1 : Int)), x2, q3] ∧ i < 300 ∧ (zrn W f i).2.2.2 = false ∧ x2 = x2 ∧ m = (300 - i) * 100 ∧ zF zMf h h2 ∧ zMd h2 (zrn W f (i + 1))) ∨
    (j = 4 ∧ S = [] ∧ ∃ (k : Nat) (q2 q3 : Option zV), L = [some (.inr (.inr 81)), some (.inl (k : Int)), q2, q3] ∧ k ≤ 6 ∧ m = 100000 + 6 - k ∧ zF zMf h h2 ∧ h2 81 31 = 0 ∧ h2 81 32 = 0 ∧ h2 81 33 = 0 ∧ h2 81 34 = 0 ∧ h2 81 35 = 0 ∧ (∀ v, 0 ≤ v → v < (k : Int) → h2 99 v = f v) ∧ ∀ v, (k : Int) ≤ v → v < 6 → h2 99 v = g v)) (fun hok hM => ?_) (fun hok hM => ?_)
  · refine s_110 hg hgv (fun h2 hF hc r3 r5 => ?_)
    exact ⟨100006, Or.inr (Or.inr (Or.inr (Or.inr ⟨rfl, rfl, 0, _, _, rfl, by omega, rfl, hF, hc.1, hc.2.1, r3, hc.2.2.1, r5, fun v h0 h1 => by omega, fun v h0 h1 => hc.2.2.2 v h0 h1⟩)))⟩
  · rintro n i L S h2 hM2 (hI | hI | hI | hI | hI)
    · obtain ⟨rfl, rfl, i, p, q2, q3, rfl, hi, hm, hF, hr, hp⟩ := hI
      have ho := zrn_o hw hfb i
      have r3 := hr.2.1
      constructor
      · intro c1
        constructor
        · intro c2
          first
          | (refine ⟨(300 - i) * 100 + 26 - (k + 1), by omega, Or.inr (Or.inl ⟨rfl, rfl, i, k + 1, _, rfl, hi, hst, by omega, rfl, hF.tr (zMf_1 hG), hc3, (hG 81 33 rfl).trans r3, (hG 81 35 rfl).trans r5⟩)⟩)
          | (have hst := zMd_ns hr (by assumption)
             have hp := hp hst
             subst hp
             have o1 := (ho.2.2 hst).1
             exact ⟨(300 - i) * 100 + 26 - 0, by omega, Or.inr (Or.inl ⟨rfl, rfl, i, 0, _, rfl, by omega, hst, by omega, rfl, hF, hr.1, by omega, by assumption⟩)⟩)
        · intro c2
          first
          | (have e3 : zrn W f i = zrn W f 300 := zrn_300 hi (Or.inr (zMd_sp hr (by assumption)))
             rw [e3] at hr
             exact hq _ hF hr)
          | (have hst := zMd_ns hr (by assumption)
             have o1 := (ho.2.2 hst).1
             have e3 : zrn W f i = zrn W f 300 := zrn_300 hi (Or.inl (by omega))
             rw [e3] at hr
             exact hq _ hF hr)
      · intro c1
        first
        | (have e3 : zrn W f i = zrn W f 300 := zrn_300 hi (Or.inr (zMd_sp hr (by assumption)))
           rw [e3] at hr
           exact hq _ hF hr)
        | (have hst := zMd_ns hr (by assumption)
           have o1 := (ho.2.2 hst).1
           have e3 : zrn W f i = zrn W f 300 := zrn_300 hi (Or.inl (by omega))
           rw [e3] at hr
           exact hq _ hF hr)
    · obtain ⟨rfl, rfl, i, k, q3, rfl, hi, hst, hk, hm, hF, hc2, r3, r5⟩ := hI
      have ho := zrn_o hw hfb i
      obtain ⟨o1, o2⟩ := ho.2.2 hst
      have hv2 := hv.M hF
      have hcn := (hw.2 _ o2).1
      have he := (hw.2 _ o2).2.1
      unfold zWE at he
      obtain ⟨e1, e2, e3, e4, e5, -⟩ := hv2.2 _ o2
      refine And.intro (by first | (show 0 ≤ _ ∧ _ < (40 : Int); omega) | (show 0 ≤ _ ∧ _ < (4800 : Int); omega) | (show 0 ≤ _ ∧ _ < (6 : Int); omega)) ?_
      constructor
      · intro c3
        refine And.intro (by omega) ?_
        refine And.intro (by omega) ?_
        refine And.intro (by omega) ?_
        refine And.intro (by first | (show 0 ≤ _ ∧ _ < (40 : Int); omega) | (show 0 ≤ _ ∧ _ < (4800 : Int); omega) | (show 0 ≤ _ ∧ _ < (6 : Int); omega)) ?_
        refine And.intro (by omega) ?_
        refine And.intro (by first | (show 0 ≤ _ ∧ _ < (40 : Int); omega) | (show 0 ≤ _ ∧ _ < (4800 : Int); omega) | (show 0 ≤ _ ∧ _ < (6 : Int); omega)) ?_
        refine And.intro (by omega) ?_
        refine And.intro (by first | (show 0 ≤ _ ∧ _ < (40 : Int); omega) | (show 0 ≤ _ ∧ _ < (4800 : Int); omega) | (show 0 ≤ _ ∧ _ < (6 : Int); omega)) ?_
        refine And.intro (by omega) ?_
        refine And.intro (by first | (show 0 ≤ _ ∧ _ < (40 : Int); omega) | (show 0 ≤ _ ∧ _ < (4800 : Int); omega) | (show 0 ≤ _ ∧ _ < (6 : Int); omega)) ?_
        refine And.intro (by omega) ?_
        refine And.intro (by first | (show 0 ≤ _ ∧ _ < (40 : Int); omega) | (show 0 ≤ _ ∧ _ < (4800 : Int); omega) | (show 0 ≤ _ ∧ _ < (6 : Int); omega)) ?_
        have hkc : (k : Int) < W.2.1 (zrn W f i).2.1 1 := by omega
        have hb := zdos_b (T := W.2.2 (zrn W f i).2.1) ho.1 k (fun x hx => (hw.2 _ o2).2.2 x (by omega))
        refine s_109 ((hw.2 _ o2).2.2 k hkc) (hv2.pt o2 hkc 0 (by omega) (by omega)) (hv2.pt o2 hkc 1 (by omega) (by omega)) (hv2.pt o2 hkc 2 (by omega) (by omega)) (hv2.pt o2 hkc 3 (by omega) (by omega)) (hv2.pt o2 hkc 4 (by omega) (by omega)) hc2 (hb.mono (by omega)) (fun h3 hG hc3 => ?_)
        refine And.intro (by omega) ?_
        first
        | (refine ⟨(300 - i) * 100 + 26 - (k + 1), by omega, Or.inr (Or.inl ⟨rfl, rfl, i, k + 1, _, rfl, hi, hst, by omega, rfl, hF.tr (zMf_1 hG), hc3, (hG 81 33 rfl).trans r3, (hG 81 35 rfl).trans r5⟩)⟩)
        | (have hst := zMd_ns hr (by assumption)
           have hp := hp hst
           subst hp
           have o1 := (ho.2.2 hst).1
           exact ⟨(300 - i) * 100 + 26 - 0, by omega, Or.inr (Or.inl ⟨rfl, rfl, i, 0, _, rfl, by omega, hst, by omega, rfl, hF, hr.1, by omega, by assumption⟩)⟩)
      · intro c3
        refine And.intro (by omega) ?_
        have hk2 : k = (W.2.1 (zrn W f i).2.1 1).toNat := by omega
        subst hk2
        exact ⟨(300 - i) * 100 + 1, by omega, Or.inr (Or.inr (Or.inl ⟨rfl, rfl, i, _, _, rfl, hi, hst, rfl, hF.st rfl, hc2.w _, by rw [zst_eq, r3], by rw [zst_ne (by decide)]; exact r5⟩))⟩
    · obtain ⟨rfl, rfl, i, q2, q3, rfl, hi, hst, hm, hF, hc2, r3, r5⟩ := hI
      have ho := zrn_o hw hfb i
      obtain ⟨o1, o2⟩ := ho.2.2 hst
      have hv2 := hv.M hF
      have hcn := (hw.2 _ o2).1
      have he := (hw.2 _ o2).2.1
      unfold zWE at he
      obtain ⟨e1, e2, e3, e4, e5, -⟩ := hv2.2 _ o2
      refine And.intro (by first | (show 0 ≤ _ ∧ _ < (40 : Int); omega) | (show 0 ≤ _ ∧ _ < (4800 : Int); omega) | (show 0 ≤ _ ∧ _ < (6 : Int); omega)) ?_
      constructor
      · intro c4
        refine And.intro (by first | exact Or.inl rfl | exact Or.inr rfl | omega) ?_
        refine ⟨(300 - i) * 100, by omega, Or.inr (Or.inr (Or.inr (Or.inl ⟨rfl, rfl, i, _, _, rfl, hi, hst, rfl, rfl, hF.st rfl, zMd_n (h2 := h2) (r := zrn W f i) hst rfl (hc2.w5 _) (by rw [zst_ne (by decide)]; omega) ?_⟩)))⟩
        rw [zst_eq]
        first
        | (rw [if_pos (by omega)])
        | (rw [if_neg (by omega)])
      · intro c4
        refine And.intro (by first | exact Or.inl rfl | exact Or.inr rfl | omega) ?_
        refine ⟨(300 - i) * 100, by omega, Or.inr (Or.inr (Or.inr (Or.inl ⟨rfl, rfl, i, _, _, rfl, hi, hst, rfl, rfl, hF.st rfl, zMd_n (h2 := h2) (r := zrn W f i) hst rfl (hc2.w5 _) (by rw [zst_ne (by decide)]; omega) ?_⟩)))⟩
        rw [zst_eq]
        first
        | (rw [if_pos (by omega)])
        | (rw [if_neg (by omega)])
    · obtain ⟨rfl, rfl, i, x2, q3, rfl, hi, hst, hx2, hm, hF, hr⟩ := hI
      have ho := zrn_o hw hfb i
      obtain ⟨o1, o2⟩ := ho.2.2 hst
      have hv2 := hv.M hF
      have hcn := (hw.2 _ o2).1
      have he := (hw.2 _ o2).2.1
      unfold zWE at he
      have hrv := hr.1.2.2.2
      have hre : (zrn W f (i + 1)).1 = zdos (W.2.2 (zrn W f i).2.1) (W.2.1 (zrn W f i).2.1 1).toNat (zrn W f i).1 := by
        show (zrd W (zrn W f i)).1 = _
        rw [zrd, if_neg (by rw [hst]; decide), zrd1]
        split <;> rfl
      obtain ⟨e1, e2, e3, e4, e5, -⟩ := hv2.2 _ o2
      refine And.intro (by first | (show 0 ≤ _ ∧ _ < (40 : Int); omega) | (show 0 ≤ _ ∧ _ < (4800 : Int); omega) | (show 0 ≤ _ ∧ _ < (6 : Int); omega)) ?_
      constructor
      · intro c5
        refine And.intro (fun c => absurd c (by decide)) (fun _ => ?_)
        refine And.intro (by first | (show 0 ≤ _ ∧ _ < (40 : Int); omega) | (show 0 ≤ _ ∧ _ < (4800 : Int); omega) | (show 0 ≤ _ ∧ _ < (6 : Int); omega)) ?_
        first
        | (have k6 : k = 6 := by omega
           subst k6
           exact ⟨(300 - 0) * 100 + 50, by omega, Or.inl ⟨rfl, rfl, 0, _, _, _, rfl, by omega, rfl, hF, ⟨⟨a1, a2, a4, hv1⟩, a3, by
             rw [a5]
             show _ = if decide (W.1 = 0) = true then _ else _
             have e : ¬ W.1 = 0 := by omega
             simp [e]⟩, fun _ => rfl⟩⟩)
        | (refine ⟨(300 - (i + 1)) * 100 + 50, by omega, Or.inl ⟨rfl, rfl, i + 1, _, _, _, rfl, by omega, rfl, hF, hr, fun q => ?_⟩⟩
           have q : (zrd W (zrn W f i)).2.2.2 = false := q
           have e2 : ¬ W.2.1 (zrn W f i).2.1 2 = 2 := fun e => by rw [zrd_st (r := zrn W f i) hst e] at q; cases q
           refine Eq.trans ?_ (zrd_p (r := zrn W f i) hw hst o2 e2)
           rw [← hre]
           first
           | (rw [if_pos (by omega)]; assumption)
           | (rw [if_neg (by omega)]; assumption)
           | (exfalso; omega))
      · intro c5
        refine And.intro (by first | (show 0 ≤ _ ∧ _ < (40 : Int); omega) | (show 0 ≤ _ ∧ _ < (4800 : Int); omega) | (show 0 ≤ _ ∧ _ < (6 : Int); omega)) ?_
        constructor
        · intro c6
          refine And.intro (by first | (show 0 ≤ _ ∧ _ < (40 : Int); omega) | (show 0 ≤ _ ∧ _ < (4800 : Int); omega) | (show 0 ≤ _ ∧ _ < (6 : Int); omega)) ?_
          refine And.intro (by first | (show 0 ≤ _ ∧ _ < (40 : Int); omega) | (show 0 ≤ _ ∧ _ < (4800 : Int); omega) | (show 0 ≤ _ ∧ _ < (6 : Int); omega)) ?_
          rw [e5, hrv _ (by omega) (by omega)]
          constructor
          · intro c7
            refine And.intro (fun _ => ?_) (fun c => absurd (by decide) c)
            refine And.intro (by first | (show 0 ≤ _ ∧ _ < (40 : Int); omega) | (show 0 ≤ _ ∧ _ < (4800 : Int); omega) | (show 0 ≤ _ ∧ _ < (6 : Int); omega)) ?_
            first
            | (have k6 : k = 6 := by omega
               subst k6
               exact ⟨(300 - 0) * 100 + 50, by omega, Or.inl ⟨rfl, rfl, 0, _, _, _, rfl, by omega, rfl, hF, ⟨⟨a1, a2, a4, hv1⟩, a3, by
                 rw [a5]
                 show _ = if decide (W.1 = 0) = true then _ else _
                 have e : ¬ W.1 = 0 := by omega
                 simp [e]⟩, fun _ => rfl⟩⟩)
            | (refine ⟨(300 - (i + 1)) * 100 + 50, by omega, Or.inl ⟨rfl, rfl, i + 1, _, _, _, rfl, by omega, rfl, hF, hr, fun q => ?_⟩⟩
               have q : (zrd W (zrn W f i)).2.2.2 = false := q
               have e2 : ¬ W.2.1 (zrn W f i).2.1 2 = 2 := fun e => by rw [zrd_st (r := zrn W f i) hst e] at q; cases q
               refine Eq.trans ?_ (zrd_p (r := zrn W f i) hw hst o2 e2)
               rw [← hre]
               first
               | (rw [if_pos (by omega)]; assumption)
               | (rw [if_neg (by omega)]; assumption)
               | (exfalso; omega))
          · intro c7
            refine And.intro (fun c => absurd c (by decide)) (fun _ => ?_)
            refine And.intro (by first | (show 0 ≤ _ ∧ _ < (40 : Int); omega) | (show 0 ≤ _ ∧ _ < (4800 : Int); omega) | (show 0 ≤ _ ∧ _ < (6 : Int); omega)) ?_
            first
            | (have k6 : k = 6 := by omega
               subst k6
               exact ⟨(300 - 0) * 100 + 50, by omega, Or.inl ⟨rfl, rfl, 0, _, _, _, rfl, by omega, rfl, hF, ⟨⟨a1, a2, a4, hv1⟩, a3, by
                 rw [a5]
                 show _ = if decide (W.1 = 0) = true then _ else _
                 have e : ¬ W.1 = 0 := by omega
                 simp [e]⟩, fun _ => rfl⟩⟩)
            | (refine ⟨(300 - (i + 1)) * 100 + 50, by omega, Or.inl ⟨rfl, rfl, i + 1, _, _, _, rfl, by omega, rfl, hF, hr, fun q => ?_⟩⟩
               have q : (zrd W (zrn W f i)).2.2.2 = false := q
               have e2 : ¬ W.2.1 (zrn W f i).2.1 2 = 2 := fun e => by rw [zrd_st (r := zrn W f i) hst e] at q; cases q
               refine Eq.trans ?_ (zrd_p (r := zrn W f i) hw hst o2 e2)
               rw [← hre]
               first
               | (rw [if_pos (by omega)]; assumption)
               | (rw [if_neg (by omega)]; assumption)
               | (exfalso; omega))
        · intro c6
          refine And.intro (fun _ => ?_) (fun c => absurd (by decide) c)
          refine And.intro (by first | (show 0 ≤ _ ∧ _ < (40 : Int); omega) | (show 0 ≤ _ ∧ _ < (4800 : Int); omega) | (show 0 ≤ _ ∧ _ < (6 : Int); omega)) ?_
          first
          | (have k6 : k = 6 := by omega
             subst k6
             exact ⟨(300 - 0) * 100 + 50, by omega, Or.inl ⟨rfl, rfl, 0, _, _, _, rfl, by omega, rfl, hF, ⟨⟨a1, a2, a4, hv1⟩, a3, by
               rw [a5]
               show _ = if decide (W.1 = 0) = true then _ else _
               have e : ¬ W.1 = 0 := by omega
               simp [e]⟩, fun _ => rfl⟩⟩)
          | (refine ⟨(300 - (i + 1)) * 100 + 50, by omega, Or.inl ⟨rfl, rfl, i + 1, _, _, _, rfl, by omega, rfl, hF, hr, fun q => ?_⟩⟩
             have q : (zrd W (zrn W f i)).2.2.2 = false := q
             have e2 : ¬ W.2.1 (zrn W f i).2.1 2 = 2 := fun e => by rw [zrd_st (r := zrn W f i) hst e] at q; cases q
             refine Eq.trans ?_ (zrd_p (r := zrn W f i) hw hst o2 e2)
             rw [← hre]
             first
             | (rw [if_pos (by omega)]; assumption)
             | (rw [if_neg (by omega)]; assumption)
             | (exfalso; omega))
    · obtain ⟨rfl, rfl, k, q2, q3, rfl, hk, hm, hF, a1, a2, a3, a4, a5, hv1, hv2⟩ := hI
      have e12 : h2 81 12 = h 81 12 := hF _ _ rfl
      have z1 := zand1 (zx_shr (h 81 12) (k : Int))
      constructor
      · intro c8
        constructor
        · intro c9
          rw [e12] at c9
          refine And.intro (by first | (show 0 ≤ _ ∧ _ < (40 : Int); omega) | (show 0 ≤ _ ∧ _ < (4800 : Int); omega) | (show 0 ≤ _ ∧ _ < (6 : Int); omega)) ?_
          refine And.intro (by first | (show 0 ≤ _ ∧ _ < (40 : Int); omega) | (show 0 ≤ _ ∧ _ < (4800 : Int); omega) | (show 0 ≤ _ ∧ _ < (6 : Int); omega)) ?_
          refine And.intro (by omega) ?_
          refine ⟨100000 + 6 - (k + 1), by omega, Or.inr (Or.inr (Or.inr (Or.inr ⟨rfl, rfl, k + 1, _, _, rfl, by omega, rfl, hF.st rfl, a1, a2, a3, a4, a5, zfill hv1 ?_, fun v h0 h1 => ?_⟩)))⟩
          · rw [hf _ (by omega) (by omega)]
            first
            | (rw [if_neg (by omega)]; exact hv2 _ (by omega) (by omega))
            | (rw [if_pos (by omega)])
          · rw [zst_ne (by omega)]
            exact hv2 v (by omega) h1
        · intro c9
          rw [e12] at c9
          refine And.intro (by first | (show 0 ≤ _ ∧ _ < (40 : Int); omega) | (show 0 ≤ _ ∧ _ < (4800 : Int); omega) | (show 0 ≤ _ ∧ _ < (6 : Int); omega)) ?_
          refine And.intro (by omega) ?_
          refine ⟨100000 + 6 - (k + 1), by omega, Or.inr (Or.inr (Or.inr (Or.inr ⟨rfl, rfl, k + 1, _, _, rfl, by omega, rfl, hF.st rfl, a1, a2, a3, a4, a5, zfill hv1 ?_, fun v h0 h1 => ?_⟩)))⟩
          · rw [hf _ (by omega) (by omega)]
            first
            | (rw [if_neg (by omega)]; exact hv2 _ (by omega) (by omega))
            | (rw [if_pos (by omega)])
          · rw [zst_ne (by omega)]
            exact hv2 v (by omega) h1
      · intro c8
        first
        | (have k6 : k = 6 := by omega
           subst k6
           exact ⟨(300 - 0) * 100 + 50, by omega, Or.inl ⟨rfl, rfl, 0, _, _, _, rfl, by omega, rfl, hF, ⟨⟨a1, a2, a4, hv1⟩, a3, by
             rw [a5]
             show _ = if decide (W.1 = 0) = true then _ else _
             have e : ¬ W.1 = 0 := by omega
             simp [e]⟩, fun _ => rfl⟩⟩)
        | (refine ⟨(300 - (i + 1)) * 100 + 50, by omega, Or.inl ⟨rfl, rfl, i + 1, _, _, _, rfl, by omega, rfl, hF, hr, fun q => ?_⟩⟩
           have q : (zrd W (zrn W f i)).2.2.2 = false := q
           have e2 : ¬ W.2.1 (zrn W f i).2.1 2 = 2 := fun e => by rw [zrd_st (r := zrn W f i) hst e] at q; cases q
           refine Eq.trans ?_ (zrd_p (r := zrn W f i) hw hst o2 e2)
           rw [← hre]
           first
           | (rw [if_pos (by omega)]; assumption)
           | (rw [if_neg (by omega)]; assumption)
           | (exfalso; omega))
/-- the reference's latest run -/
def zMl (h : zM) (r : zRr) : Prop := h 100 0 = r.1.2.1 ∧ h 100 1 = (r.1.2.2.1 : Int) ∧ h 100 2 = (r.2.2.1 : Int) ∧ h 100 3 = (if r.2.2.2 = true then 1 else 0) ∧ ∀ v, 0 ≤ v → v < 6 → h 100 (4 + v) = r.1.1 v
set_option maxHeartbeats 4000000 in
set_option maxRecDepth 100000 in
/-- M.isLatest -/
theorem s_113 {h : zM} {r : zRr} (hr : zMd h r) {Q : zQ} (hq : ∀ h2, zF (fun r k => Nat.beq r 100 || (Nat.beq r 81 && decide (k = 36))) h h2 → h2 81 36 = 1 → zMl h2 r → Q (some (.inl (if r.2.2.2 = true then (r.1.2.2.2 : Int) else -2))) h2) : zR 113 [.inr (.inr 81)] h Q := by
  have r5 := hr.2.2
  refine zx_met zk_113 (Or.inr ⟨_, _, rfl, rfl⟩) (Nat.le_of_ble_eq_true rfl) (fun _ => false) 1000 (fun m j L S h2 => j = 33 ∧ S = [] ∧ ∃ k : Nat, L = [some (.inr (.inr 81)), some (.inl (k : Int))] ∧ k ≤ 6 ∧ m = 6 - k ∧ zF (fun r k => Nat.beq r 100 || (Nat.beq r 81 && decide (k = 36))) h h2 ∧ h2 81 36 = 1 ∧ h2 100 0 = r.1.2.1 ∧ h2 100 1 = (r.1.2.2.1 : Int) ∧ h2 100 2 = (r.2.2.1 : Int) ∧ h2 100 3 = (if r.2.2.2 = true then 1 else 0) ∧ ∀ v, 0 ≤ v → v < (k : Int) → h2 100 (4 + v) = r.1.1 v) (fun hok hM => ?_) (fun hok hM => ?_)
  · refine And.intro (by first | exact Or.inl rfl | exact Or.inr rfl | omega) ?_
    refine And.intro (by first | (show 0 ≤ _ ∧ _ < (6 : Int); omega) | (show 0 ≤ _ ∧ _ < (10 : Int); omega)) ?_
    refine And.intro (by first | (show 0 ≤ _ ∧ _ < (6 : Int); omega) | (show 0 ≤ _ ∧ _ < (10 : Int); omega)) ?_
    refine And.intro (by first | (show 0 ≤ _ ∧ _ < (6 : Int); omega) | (show 0 ≤ _ ∧ _ < (10 : Int); omega)) ?_
    constructor
    · intro c1
      simp [zx_st] at c1
      refine And.intro (by first | (show 0 ≤ _ ∧ _ < (6 : Int); omega) | (show 0 ≤ _ ∧ _ < (10 : Int); omega)) ?_
      refine ⟨6, rfl, rfl, 0, rfl, by omega, rfl, ((((zF.rf.st rfl).st rfl).st rfl).st rfl).st rfl, ?_, ?_, ?_, ?_, ?_, fun v h0 h1 => by omega⟩
      · simp [zx_st]
      · simpa [zx_st] using hr.1.1
      · simpa [zx_st] using hr.1.2.1
      · simpa [zx_st] using hr.2.1
      · rw [zst_eq]
        first
        | (rw [if_pos (zMd_sp hr (by assumption))])
        | (rw [if_neg (by rw [zMd_ns hr (by assumption)]; decide)])
    · intro c1
      simp [zx_st] at c1
      refine And.intro (by first | (show 0 ≤ _ ∧ _ < (6 : Int); omega) | (show 0 ≤ _ ∧ _ < (10 : Int); omega)) ?_
      refine ⟨6, rfl, rfl, 0, rfl, by omega, rfl, ((((zF.rf.st rfl).st rfl).st rfl).st rfl).st rfl, ?_, ?_, ?_, ?_, ?_, fun v h0 h1 => by omega⟩
      · simp [zx_st]
      · simpa [zx_st] using hr.1.1
      · simpa [zx_st] using hr.1.2.1
      · simpa [zx_st] using hr.2.1
      · rw [zst_eq]
        first
        | (rw [if_pos (zMd_sp hr (by assumption))])
        | (rw [if_neg (by rw [zMd_ns hr (by assumption)]; decide)])
  · rintro m j L S h2 hM2 ⟨rfl, rfl, k, rfl, hk, hm, hF, a1, a2, a3, a4, a5, hv⟩
    have b5 : h2 81 35 = h 81 35 := hF _ _ rfl
    have b4 : h2 81 34 = h 81 34 := hF _ _ rfl
    have b99 : ∀ v, h2 99 v = h 99 v := fun v => hF _ _ rfl
    constructor
    · intro c2
      refine And.intro (by omega) ?_
      refine And.intro (by first | (show 0 ≤ _ ∧ _ < (6 : Int); omega) | (show 0 ≤ _ ∧ _ < (10 : Int); omega)) ?_
      refine And.intro (by first | (show 0 ≤ _ ∧ _ < (6 : Int); omega) | (show 0 ≤ _ ∧ _ < (10 : Int); omega)) ?_
      refine And.intro (by omega) ?_
      refine ⟨6 - (k + 1), by omega, rfl, rfl, k + 1, rfl, by omega, rfl, hF.st rfl, ?_, ?_, ?_, ?_, ?_, fun v h0 h1 => ?_⟩
      · rw [zst_nr (by omega)]; exact a1
      · rw [zst_ne (by omega)]; exact a2
      · rw [zst_ne (by omega)]; exact a3
      · rw [zst_ne (by omega)]; exact a4
      · rw [zst_ne (by omega)]; exact a5
      · by_cases e : v = (k : Int)
        · rw [e, zst_eq, b99]
          exact hr.1.2.2.2 _ (by omega) (by omega)
        · rw [zst_ne (by omega)]
          exact hv v h0 (by omega)
    · intro c2
      constructor
      · intro c3
        have k6 : k = 6 := by omega
        subst k6
        have hq := hq _ hF a1 ⟨a2, a3, a4, a5, hv⟩
        first
        | (rw [if_pos (zMd_sp hr (by rw [← b5]; assumption)), ← hr.1.2.2.1, ← b4] at hq; exact hq)
        | (rw [if_neg (by rw [zMd_ns hr (by rw [← b5]; assumption)]; decide)] at hq; exact hq)
      · intro c3
        have k6 : k = 6 := by omega
        subst k6
        have hq := hq _ hF a1 ⟨a2, a3, a4, a5, hv⟩
        first
        | (rw [if_pos (zMd_sp hr (by rw [← b5]; assumption)), ← hr.1.2.2.1, ← b4] at hq; exact hq)
        | (rw [if_neg (by rw [zMd_ns hr (by rw [← b5]; assumption)]; decide)] at hq; exact hq)
set_option maxHeartbeats 4000000 in
set_option maxRecDepth 100000 in
/-- M.drawsBegins -/
theorem s_114 {h : zM} {Q : zQ} (hq : ∀ h2, zF (fun r _ => Nat.beq r 101) h h2 → (∀ v, 0 ≤ v → v < 6 → h2 101 v = h 98 v) → Q none h2) : zR 114 [.inr (.inr 81)] h Q := by
  refine zx_met zk_114 (Or.inr ⟨_, _, rfl, rfl⟩) (Nat.le_of_ble_eq_true rfl) (fun _ => false) 1000 (fun m j L S h2 => j = 2 ∧ S = [] ∧ ∃ k : Nat, L = [some (.inr (.inr 81)), some (.inl (k : Int))] ∧ k ≤ 6 ∧ m = 6 - k ∧ zF (fun r _ => Nat.beq r 101) h h2 ∧ ∀ v, 0 ≤ v → v < (k : Int) → h2 101 v = h 98 v) (fun hok hM => ?_) (fun hok hM => ?_)
  · exact ⟨6, rfl, rfl, 0, rfl, by omega, rfl, zF.rf, fun v h0 h1 => by omega⟩
  · rintro m j L S h2 hM2 ⟨rfl, rfl, k, rfl, hk, hm, hF, hv⟩
    constructor
    · intro c1
      refine And.intro (by show 0 ≤ _ ∧ _ < (6 : Int); omega) ?_
      refine And.intro (by show 0 ≤ _ ∧ _ < (6 : Int); omega) ?_
      refine And.intro (by omega) ?_
      refine ⟨6 - (k + 1), by omega, rfl, rfl, k + 1, rfl, by omega, rfl, hF.st rfl, zfill hv ?_⟩
      exact hF _ _ rfl
    · intro c1
      have k6 : k = 6 := by omega
      subst k6
      exact hq _ hF hv
