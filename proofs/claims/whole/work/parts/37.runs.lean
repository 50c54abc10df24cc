/-! RUNS, and the class's -/
/-- VALUES, SAID, how many said, how many steps -/
abbrev zRs : Type := (Int → Int) × Int × Nat × Nat
def zval (f : Int → Int) (o : Int) : Int := if o < 100 then o else f (o - 100)
def zdo1 (t : Nat → Int) (s : zRs) : zRs := if t 0 = 0 then (fun j => if j = t 1 then zres (t 3) (zval s.1 (t 2)) (zval s.1 (t 4)) else s.1 j, s.2.1, s.2.2.1, s.2.2.2 + 1) else (s.1, zx_wr (zx_wr (zx_wr (s.2.1 * 31) + zval s.1 (t 2)) + 1), s.2.2.1 + 1, s.2.2.2 + 1)
def zdos (T : Nat → Nat → Int) (n : Nat) (s : zRs) : zRs := zit (fun i s => zdo1 (T i) s) n s
/-- a run's state, its place, its way, whether it stopped -/
abbrev zRr : Type := zRs × Nat × Nat × Bool
def zrd1 (W : zW) (s : zRs) (p y : Nat) : zRr := if W.2.1 p 2 = 2 then (s, p, y + 1, true) else (s, (if W.2.1 p 2 = 0 ∨ ¬ s.1 (W.2.1 p 5) = 0 then W.2.1 p 3 else W.2.1 p 4).toNat, y + 1, false)
def zrd (W : zW) (r : zRr) : zRr := if r.2.2.2 = true then r else zrd1 W (zdos (W.2.2 r.2.1) (W.2.1 r.2.1 1).toNat r.1) r.2.1 r.2.2.1
def zrn (W : zW) (f : Int → Int) (n : Nat) : zRr := zit (fun _ r => zrd W r) n ((f, 0, 0, 0), 0, 0, decide (W.1 = 0))
/-- bounds -/
def zRb (s : zRs) (n : Nat) : Prop := (∀ v, 0 ≤ v → v < 6 → 0 ≤ s.1 v ∧ s.1 v ≤ 99) ∧ s.2.2.1 ≤ n ∧ s.2.2.2 ≤ n
theorem zres_b {o x y : Int} (hx : 0 ≤ x ∧ x ≤ 99) (hy : 0 ≤ y ∧ y ≤ 99) : 0 ≤ zres o x y ∧ zres o x y ≤ 99 := by
  unfold zres
  repeat' split
  all_goals omega
theorem zval_b {f : Int → Int} (hf : ∀ v, 0 ≤ v → v < 6 → 0 ≤ f v ∧ f v ≤ 99) {o : Int} (ho : 0 ≤ o ∧ o < 106) : 0 ≤ zval f o ∧ zval f o ≤ 99 := by
  unfold zval
  split
  · omega
  · exact hf _ (by omega) (by omega)
theorem zdo1_b {t : Nat → Int} {s : zRs} {n : Nat} (ht : zWS t) (hb : zRb s n) : zRb (zdo1 t s) (n + 1) := by
  obtain ⟨b1, b2, b3⟩ := hb
  unfold zdo1
  unfold zWS at ht
  split
  · refine ⟨fun v h0 h1 => ?_, by show s.2.2.1 ≤ n + 1; omega, by show s.2.2.2 + 1 ≤ n + 1; omega⟩
    show 0 ≤ (if v = t 1 then _ else s.1 v) ∧ (if v = t 1 then _ else s.1 v) ≤ 99
    split
    · exact zres_b (zval_b b1 (by omega)) (zval_b b1 (by omega))
    · exact b1 v h0 h1
  · exact ⟨b1, by show s.2.2.1 + 1 ≤ n + 1; omega, by show s.2.2.2 + 1 ≤ n + 1; omega⟩
theorem zdos_b {T : Nat → Nat → Int} {s : zRs} {n : Nat} (hb : zRb s n) : ∀ c : Nat, (∀ i, i < c → zWS (T i)) → zRb (zdos T c s) (n + c)
  | 0, _ => hb
  | c + 1, ht => zdo1_b (ht c (by omega)) (zdos_b hb c (fun i hi => ht i (by omega)))
/-- the run's bounds -/
def zRo (W : zW) (r : zRr) (n : Nat) : Prop := zRb r.1 (24 * n) ∧ r.2.2.1 ≤ n ∧ (r.2.2.2 = false → r.2.2.1 = n ∧ r.2.1 < W.1)
theorem zRb.mono {s : zRs} {n m : Nat} (h : zRb s n) (hm : n ≤ m) : zRb s m := ⟨h.1, Nat.le_trans h.2.1 hm, Nat.le_trans h.2.2 hm⟩
theorem zrd_o {W : zW} (hw : zWw W) {r : zRr} {n : Nat} (ho : zRo W r n) : zRo W (zrd W r) (n + 1) := by
  obtain ⟨o1, o2, o3⟩ := ho
  unfold zrd
  split
  · rename_i hs
    exact ⟨o1.mono (by omega), by omega, fun hf => by rw [hs] at hf; cases hf⟩
  · rename_i hs
    have hs : r.2.2.2 = false := by simpa using hs
    obtain ⟨o4, o5⟩ := o3 hs
    have hp := hw.2 r.2.1 o5
    have hb := zdos_b (T := W.2.2 r.2.1) o1 (W.2.1 r.2.1 1).toNat (fun i hi => hp.2.2 i (by omega))
    have he := hp.2.1
    unfold zWE at he
    unfold zrd1
    split
    · exact ⟨hb.mono (by omega), by show r.2.2.1 + 1 ≤ n + 1; omega, fun hf => by cases hf⟩
    · refine ⟨hb.mono (by omega), by show r.2.2.1 + 1 ≤ n + 1; omega, fun _ => ⟨by show r.2.2.1 + 1 = n + 1; omega, ?_⟩⟩
      show (if _ then W.2.1 r.2.1 3 else W.2.1 r.2.1 4).toNat < W.1
      split <;> omega
theorem zrn_o {W : zW} (hw : zWw W) {f : Int → Int} (hf : ∀ v, 0 ≤ v → v < 6 → 0 ≤ f v ∧ f v ≤ 99) : ∀ n, zRo W (zrn W f n) n
  | 0 => ⟨⟨hf, Nat.le_refl _, Nat.le_refl _⟩, Nat.le_refl _, fun h => ⟨rfl, by
      have h : decide (W.1 = 0) = false := h
      have := of_decide_eq_false h
      show 0 < W.1
      omega⟩⟩
  | n + 1 => zrd_o hw (zrn_o hw hf n)
theorem zrn_st {W : zW} {f : Int → Int} {n : Nat} (hs : (zrn W f n).2.2.2 = true) : ∀ m, zrn W f (n + m) = zrn W f n
  | 0 => rfl
  | m + 1 => by
    have := zrn_st hs m
    show zrd W (zrn W f (n + m)) = _
    rw [this, zrd, if_pos hs]
theorem zrn_300 {W : zW} {f : Int → Int} {n : Nat} (hn : n ≤ 300) (hs : n = 300 ∨ (zrn W f n).2.2.2 = true) : zrn W f n = zrn W f 300 := by
  rcases hs with rfl | hs
  · rfl
  · have := zrn_st hs (300 - n)
    rw [show n + (300 - n) = 300 by omega] at this
    exact this.symm
/-- the class's run at a holds s -/
def zRc (h : zM) (a : Nat) (s : zRs) : Prop := h a 1 = s.2.1 ∧ h a 2 = (s.2.2.1 : Int) ∧ h a 4 = (s.2.2.2 : Int) ∧ ∀ v, 0 ≤ v → v < 6 → h (a + 1) v = s.1 v
def zRf (a : Nat) : Nat → Int → Bool := fun r k => Nat.beq r (a + 1) || (Nat.beq r a && (decide (k = 1) || decide (k = 2) || decide (k = 4)))
theorem zRc.set {h : zM} {a : Nat} {s : zRs} (hc : zRc h a s) {t : Nat → Int} (h0 : t 0 = 0) {x y : Int} (hx : x = zres (t 3) (zval s.1 (t 2)) (zval s.1 (t 4))) (hy : y = h a 4 + 1) : zRc (zx_st (zx_st h (a + 1) (t 1) x) a 4 y) a (zdo1 t s) := by
  obtain ⟨c1, c2, c3, c4⟩ := hc
  unfold zdo1
  rw [if_pos h0]
  refine ⟨?_, ?_, ?_, fun v v0 v1 => ?_⟩
  · rw [zst_ne (by decide), zst_nr (by omega)]; exact c1
  · rw [zst_ne (by decide), zst_nr (by omega)]; exact c2
  · rw [zst_eq, hy, c3]; rfl
  · rw [zst_nr (by omega)]
    show zx_st h (a + 1) (t 1) x (a + 1) v = if v = t 1 then _ else s.1 v
    split
    · rename_i e; rw [e, zst_eq, hx]
    · rename_i e; rw [zst_ne e]; exact c4 v v0 v1
theorem zRc.say {h : zM} {a : Nat} {s : zRs} (hc : zRc h a s) {t : Nat → Int} (h0 : ¬ t 0 = 0) {x y z : Int} (hx : x = zx_wr (zx_wr (zx_wr (h a 1 * 31) + zval s.1 (t 2)) + 1)) (hy : y = h a 2 + 1) (hz : z = h a 4 + 1) : zRc (zx_st (zx_st (zx_st h a 1 x) a 2 y) a 4 z) a (zdo1 t s) := by
  obtain ⟨c1, c2, c3, c4⟩ := hc
  unfold zdo1
  rw [if_neg h0]
  refine ⟨?_, ?_, ?_, fun v v0 v1 => ?_⟩
  · rw [zst_ne (by decide), zst_ne (by decide), zst_eq, hx, c1]
  · rw [zst_ne (by decide), zst_eq, hy, c2]; rfl
  · rw [zst_eq, hz, c3]; rfl
  · rw [zst_nr (by omega), zst_nr (by omega), zst_nr (by omega)]; exact c4 v v0 v1
theorem s_46t {r : Nat} (hr : r = 65 ∨ r = 67 ∨ r = 69) {f : Int → Int} {h : zM} (hv : ∀ v, 0 ≤ v → v < 6 → h r v = f v) {o : Int} (ho : 0 ≤ o ∧ o < 106) {Q : zQ} (hq : Q (some (.inl (zval f o))) h) : zR 46 [.inl o, .inr (.inr r)] h Q := by
  refine s_46 hr (by omega) (fun c => ?_) (fun c => ?_)
  · rw [zval, if_neg (by omega)] at hq
    rw [hv _ (by omega) (by omega)]
    exact hq
  · rw [zval, if_pos (by omega)] at hq
    exact hq
set_option maxHeartbeats 4000000 in
set_option maxRecDepth 100000 in
/-- Run.doSteps -/
theorem s_182 {a b : Nat} (ha : a = 64 ∨ a = 66 ∨ a = 68) (hb : b = 12 ∨ b = 36) {h : zM} {W : zW} (hv : zVw h b W) (hw : zWw W) {p : Nat} (hp : p < W.1) {s : zRs} (hc : zRc h a s) (hsb : zRb s 7200) {Q : zQ} (hq : ∀ h2, zF (zRf a) h h2 → zRc h2 a (zdos (W.2.2 p) (W.2.1 p 1).toNat s) → Q none h2) : zR 182 [.inr (.inr a), .inr (.inr b), .inl (p : Int)] h Q := by
  have hn := hw.1
  have hcn := (hw.2 p hp).1
  obtain ⟨c, hc1⟩ : ∃ c : Nat, (c : Int) = W.2.1 p 1 := ⟨(W.2.1 p 1).toNat, by omega⟩
  have hct : (W.2.1 p 1).toNat = c := by omega
  rw [hct] at hq
  have hvn := hv.2.1
  have hvk := hv.1
  obtain ⟨f1, f2, f3, f4⟩ := hv.2.2 p hp
  have g1 : h (b + 2) (p : Int) = (c : Int) := (f1 1 (by omega) (by omega)).trans hc1.symm
  have f5 : h b 8 ≤ 960 := by
    have := hvk.2.2
    unfold zWs at this
    split at this <;> omega
  have f6 : (b = 12 → h b 7 ≤ 8) ∧ h b 7 ≤ 40 := by
    have := hvk.1.2
    unfold zWn at this
    split at this <;> omega
  obtain ⟨f, hf⟩ : ∃ f : Nat, h (b + 1) (p : Int) = (f : Int) := ⟨(h (b + 1) (p : Int)).toNat, by omega⟩
  have fc : (f : Int) + (c : Int) ≤ 960 := by omega
  obtain ⟨A, hA⟩ : ∃ A, A = a := ⟨_, rfl⟩
  obtain ⟨B, hB⟩ : ∃ B, B = b := ⟨_, rfl⟩
  rcases ha with rfl | rfl | rfl <;> rcases hb with rfl | rfl <;> simp only [Nat.reduceAdd] at g1 hf
  all_goals
    refine zx_met zk_182 (Or.inr ⟨_, _, rfl, rfl⟩) (Nat.le_of_ble_eq_true rfl) (fun _ => false) 1000 (fun m j L S h2 => j = 20 ∧ S = [] ∧ ∃ (i : Nat) (x y : Int) (q1 q2 q3 : Option zV), L = [some (.inr (.inr A)), some (.inr (.inr B)), some (.inl (p : Int)), some (.inl y), some (.inl x), q1, q2, q3] ∧ y = (f : Int) + (c : Int) ∧ x = (f : Int) + (i : Int) ∧ i ≤ c ∧ m = c - i ∧ zF (zRf A) h h2 ∧ zRc h2 A (zdos (W.2.2 p) i s)) (fun hok hM => ?_) (fun hok hM => ?_)
    · refine s_196 (by unfold zWb; omega) (fun _ => ?_) (fun q => absurd ⟨by omega, by omega⟩ q)
      refine And.intro (fun c => absurd c (by decide)) (fun _ => ?_)
      refine And.intro (by first | (show 0 ≤ _ ∧ _ < (8 : Int); omega) | (show 0 ≤ _ ∧ _ < (40 : Int); omega) | (show 0 ≤ _ ∧ _ < (6 : Int); omega)) ?_
      refine And.intro (by first | (show 0 ≤ _ ∧ _ < (8 : Int); omega) | (show 0 ≤ _ ∧ _ < (40 : Int); omega) | (show 0 ≤ _ ∧ _ < (6 : Int); omega)) ?_
      refine And.intro (by first | omega | (simp only [zx_st]; simp; omega)) ?_
      refine And.intro (by first | (show 0 ≤ _ ∧ _ < (8 : Int); omega) | (show 0 ≤ _ ∧ _ < (40 : Int); omega) | (show 0 ≤ _ ∧ _ < (6 : Int); omega)) ?_
      subst hA
      subst hB
      exact ⟨c, rfl, rfl, 0, _, _, _, _, _, rfl, by omega, by omega, by omega, rfl, zF.rf, hc⟩
    · subst hA
      subst hB
      rintro m j L S h2 hM2 ⟨rfl, rfl, i, x, y, q1, q2, q3, rfl, rfl, rfl, hi, hm, hF, hc2⟩
      have hb2 := zdos_b (T := W.2.2 p) hsb i (fun x hx => (hw.2 p hp).2.2 x (by omega))
      have c1 := hc2.1
      have c2 := hc2.2.1
      have c3 := hc2.2.2.1
      have c4 := hc2.2.2.2
      have hb3 := hb2.2.1
      have hb4 := hb2.2.2
      constructor
      · intro c1
        have hsp := (f4 i (by omega)).fr (h2 := h2) (fun _ => hF _ _ rfl) (fun _ => hF _ _ rfl)
        rw [hf] at hsp
        have ht := (hw.2 p hp).2.2 i (by omega)
        have ht2 := ht
        unfold zWS at ht2
        refine s_199t (by unfold zWb; omega) hsp 2 (by omega) ?_
        refine s_46t (by omega) c4 (by omega) ?_
        refine s_199t (by unfold zWb; omega) hsp 1 (by omega) ?_
        refine s_38 (fun v1 => ?_) (fun v1 => ?_)
        · refine And.intro (fun c => absurd c (by decide)) (fun _ => ?_)
          refine s_199t (by unfold zWb; omega) hsp 4 (by omega) ?_
          refine s_46t (by omega) c4 (by omega) ?_
          refine s_199t (by unfold zWb; omega) hsp 3 (by omega) ?_
          refine s_47 (zval_b hb2.1 (by omega)) (zval_b hb2.1 (by omega)) ?_
          refine And.intro (by first | (show 0 ≤ _ ∧ _ < (8 : Int); omega) | (show 0 ≤ _ ∧ _ < (40 : Int); omega) | (show 0 ≤ _ ∧ _ < (6 : Int); omega)) ?_
          refine And.intro (by first | omega | (simp only [zx_st]; simp; omega)) ?_
          refine And.intro (by first | omega | (simp only [zx_st]; simp; omega)) ?_
          first
          | (refine ⟨c - (i + 1), by omega, rfl, rfl, i + 1, _, _, _, _, _, rfl, by omega, by omega, by omega, rfl, ?_, hc2.set (by omega) rfl (by simp [zx_st])⟩
             exact (hF.st rfl).st rfl)
          | (refine ⟨c - (i + 1), by omega, rfl, rfl, i + 1, _, _, _, _, _, rfl, by omega, by omega, by omega, rfl, ?_, hc2.say (by omega) rfl (by simp [zx_st]) (by simp [zx_st])⟩
             exact ((hF.st rfl).st rfl).st rfl)
        · refine And.intro (fun _ => ?_) (fun c => absurd (by decide) c)
          refine And.intro (by first | omega | (simp only [zx_st]; simp; omega)) ?_
          refine And.intro (by first | omega | (simp only [zx_st]; simp; omega)) ?_
          refine And.intro (by first | omega | (simp only [zx_st]; simp; omega)) ?_
          first
          | (refine ⟨c - (i + 1), by omega, rfl, rfl, i + 1, _, _, _, _, _, rfl, by omega, by omega, by omega, rfl, ?_, hc2.set (by omega) rfl (by simp [zx_st])⟩
             exact (hF.st rfl).st rfl)
          | (refine ⟨c - (i + 1), by omega, rfl, rfl, i + 1, _, _, _, _, _, rfl, by omega, by omega, by omega, rfl, ?_, hc2.say (by omega) rfl (by simp [zx_st]) (by simp [zx_st])⟩
             exact ((hF.st rfl).st rfl).st rfl)
      · intro c1
        have hic : i = c := by omega
        subst hic
        exact hq _ hF hc2
set_option maxHeartbeats 4000000 in
set_option maxRecDepth 100000 in
/-- Run.onward -/
theorem s_183 {a b : Nat} (ha : a = 64 ∨ a = 66 ∨ a = 68) (hb : b = 12 ∨ b = 36) {h : zM} {W : zW} (hv : zVw h b W) (hw : zWw W) {p : Nat} (hp : p < W.1) {f : Int → Int} (hf : ∀ v, 0 ≤ v → v < 6 → h (a + 1) v = f v) {Q : zQ} (h0 : ¬ W.2.1 p 2 = 2 → Q (some (.inl (if W.2.1 p 2 = 0 ∨ ¬ f (W.2.1 p 5) = 0 then W.2.1 p 3 else W.2.1 p 4))) h) (h2 : W.2.1 p 2 = 2 → Q (some (.inl (p : Int))) (zx_st h a 5 1)) : zR 183 [.inr (.inr a), .inr (.inr b), .inl (p : Int)] h Q := by
  have he := (hw.2 p hp).2.1
  unfold zWE at he
  rcases ha with rfl | rfl | rfl <;> rcases hb with rfl | rfl
  all_goals
    refine zx_met0 zk_183 (Or.inr ⟨_, _, rfl, rfl⟩) (Nat.le_of_ble_eq_true rfl) 1000 (fun hok hM => ?_)
    refine s_197t (by unfold zWb; omega) hv hp 2 (by omega) (by omega) ?_
    refine s_197t (by unfold zWb; omega) hv hp 5 (by omega) (by omega) ?_
    constructor
    · intro c1
      refine s_197t (by unfold zWb; omega) hv hp 3 (by omega) (by omega) ?_
      first
      | exact h2 (by omega)
      | (have h0 := h0 (by omega)
         rw [if_pos (by omega)] at h0
         exact h0)
      | (have h0 := h0 (by omega)
         rw [if_neg (by omega)] at h0
         exact h0)
      | (exfalso; omega)
    · intro c1
      constructor
      · intro c2
        refine s_38 (fun v1 => ?_) (fun v1 => ?_)
        · refine And.intro (fun c => absurd c (by decide)) (fun _ => ?_)
          refine And.intro (by show 0 ≤ _ ∧ _ < (6 : Int); omega) ?_
          rw [hf _ (by omega) (by omega)]
          constructor
          · intro c3
            first
            | (refine s_197t (by unfold zWb; omega) hv hp 3 (by omega) (by omega) ?_)
            | (refine s_197t (by unfold zWb; omega) hv hp 4 (by omega) (by omega) ?_)
            first
            | exact h2 (by omega)
            | (have h0 := h0 (by omega)
               rw [if_pos (by omega)] at h0
               exact h0)
            | (have h0 := h0 (by omega)
               rw [if_neg (by omega)] at h0
               exact h0)
            | (exfalso; omega)
          · intro c3
            first
            | (refine s_197t (by unfold zWb; omega) hv hp 3 (by omega) (by omega) ?_)
            | (refine s_197t (by unfold zWb; omega) hv hp 4 (by omega) (by omega) ?_)
            first
            | exact h2 (by omega)
            | (have h0 := h0 (by omega)
               rw [if_pos (by omega)] at h0
               exact h0)
            | (have h0 := h0 (by omega)
               rw [if_neg (by omega)] at h0
               exact h0)
            | (exfalso; omega)
        · refine And.intro (fun _ => ?_) (fun c => absurd (by decide) c)
          refine And.intro (by first | exact Or.inl rfl | exact Or.inr rfl | omega) ?_
          first
          | exact h2 (by omega)
          | (have h0 := h0 (by omega)
             rw [if_pos (by omega)] at h0
             exact h0)
          | (have h0 := h0 (by omega)
             rw [if_neg (by omega)] at h0
             exact h0)
          | (exfalso; omega)
      · intro c2
        refine And.intro (by first | exact Or.inl rfl | exact Or.inr rfl | omega) ?_
        first
        | exact h2 (by omega)
        | (have h0 := h0 (by omega)
           rw [if_pos (by omega)] at h0
           exact h0)
        | (have h0 := h0 (by omega)
           rw [if_neg (by omega)] at h0
           exact h0)
        | (exfalso; omega)
/-- the run at a holds r -/
def zRd (h : zM) (a : Nat) (r : zRr) : Prop := zRc h a r.1 ∧ h a 3 = (r.2.2.1 : Int) ∧ h a 5 = (if r.2.2.2 = true then 1 else 0)
def zRg (a : Nat) : Nat → Int → Bool := fun r _ => Nat.beq r (a + 1) || Nat.beq r a
theorem zRf_g {a : Nat} {h h2 : zM} (hF : zF (zRf a) h h2) : zF (zRg a) h h2 := hF.mono (fun r k hf => by
  unfold zRg at hf
  unfold zRf
  simp only [Bool.or_eq_false_iff] at hf
  rw [hf.1, hf.2]
  rfl)
/-- which run goes where, from which row -/
def zRk (a b c : Nat) : Prop := (a = 64 ∧ b = 12 ∧ c = 70) ∨ (a = 64 ∧ b = 36 ∧ c = 70) ∨ (a = 66 ∧ b = 12 ∧ c = 71) ∨ (a = 68 ∧ b = 36 ∧ c = 71)
theorem zRg_w {a b c : Nat} (hk : zRk a b c) {w : Nat} {k : Int} (hw : w < 8) : zRg a (b + w) k = false := by
  unfold zRk at hk
  have h1 : Nat.beq (b + w) (a + 1) = false := zbeq_ne (by omega)
  have h2 : Nat.beq (b + w) a = false := zbeq_ne (by omega)
  unfold zRg
  rw [h1, h2]
  rfl
theorem zfill {h2 : zM} {r : Nat} {k : Nat} {x : Int} {f : Int → Int} (hv : ∀ v, 0 ≤ v → v < (k : Int) → h2 r v = f v) (hx : x = f (k : Int)) : ∀ v, 0 ≤ v → v < (((k + 1 : Nat)) : Int) → zx_st h2 r (k : Int) x r v = f v := by
  intro v h0 h1
  by_cases e : v = (k : Int)
  · rw [e, zst_eq, hx]
  · rw [zst_ne e]
    exact hv v h0 (by omega)
theorem zRd0 {h2 : zM} {a : Nat} {x : Int} {f : Int → Int} {W : zW} (hv : ∀ v, 0 ≤ v → v < 6 → h2 (a + 1) v = f v) (hx : x = if W.1 = 0 then 1 else 0) : zRd (zx_st (zx_st (zx_st (zx_st (zx_st h2 a 1 0) a 2 0) a 3 0) a 4 0) a 5 x) a (zrn W f 0) := by
  refine ⟨⟨?_, ?_, ?_, fun v h0 h1 => ?_⟩, ?_, ?_⟩
  · simp [zx_st, zrn, zit]
  · simp [zx_st, zrn, zit]
  · simp [zx_st, zrn, zit]
  · rw [zst_nr (by omega), zst_nr (by omega), zst_nr (by omega), zst_nr (by omega), zst_nr (by omega)]
    exact hv v h0 h1
  · simp [zx_st, zrn, zit]
  · rw [zst_eq, hx]
    show _ = if decide (W.1 = 0) = true then _ else _
    by_cases e : W.1 = 0 <;> simp [e]
theorem zRd_ns {h : zM} {a : Nat} {r : zRr} (hr : zRd h a r) (h0 : h a 5 = 0) : r.2.2.2 = false := by
  have := hr.2.2
  cases e : r.2.2.2
  · rfl
  · rw [e, if_pos rfl] at this
    omega
theorem zRd_sp {h : zM} {a : Nat} {r : zRr} (hr : zRd h a r) (h0 : ¬ h a 5 = 0) : r.2.2.2 = true := by
  have := hr.2.2
  cases e : r.2.2.2
  · rw [e, if_neg (by decide)] at this
    omega
  · rfl
theorem zRc.w {h : zM} {a : Nat} {s : zRs} (hc : zRc h a s) (x : Int) : zRc (zx_st h a 3 x) a s := by
  obtain ⟨c1, c2, c3, c4⟩ := hc
  refine ⟨?_, ?_, ?_, fun v v0 v1 => ?_⟩
  · rw [zst_ne (by decide)]; exact c1
  · rw [zst_ne (by decide)]; exact c2
  · rw [zst_ne (by decide)]; exact c3
  · rw [zst_nr (by omega)]; exact c4 v v0 v1
theorem zRc.w5 {h : zM} {a : Nat} {s : zRs} (hc : zRc h a s) (x : Int) : zRc (zx_st h a 5 x) a s := by
  obtain ⟨c1, c2, c3, c4⟩ := hc
  refine ⟨?_, ?_, ?_, fun v v0 v1 => ?_⟩
  · rw [zst_ne (by decide)]; exact c1
  · rw [zst_ne (by decide)]; exact c2
  · rw [zst_ne (by decide)]; exact c3
  · rw [zst_nr (by omega)]; exact c4 v v0 v1
theorem zRf_k {a : Nat} {k : Int} (hk : k = 3 ∨ k = 5) : zRf a a k = false := by
  have h1 : Nat.beq a (a + 1) = false := zbeq_ne (by omega)
  unfold zRf
  rcases hk with rfl | rfl <;> simp [h1]
theorem zRd_n {h2 h4 : zM} {a : Nat} {r : zRr} {W : zW} {x : Int} (hr : zRd h2 a r) (hst : r.2.2.2 = false) (hG : zF (zRf a) (zx_st h2 a 3 x) h4) (hx : x = h2 a 3 + 1) (hc4 : zRc h4 a (zdos (W.2.2 r.2.1) (W.2.1 r.2.1 1).toNat r.1)) (e2 : ¬ W.2.1 r.2.1 2 = 2) : zRd h4 a (zrd W r) := by
  rw [zrd, if_neg (by rw [hst]; decide), zrd1, if_neg e2]
  refine ⟨hc4, ?_, ?_⟩
  · rw [hG a 3 (zRf_k (Or.inl rfl)), zst_eq, hx, hr.2.1]
    rfl
  · rw [hG a 5 (zRf_k (Or.inr rfl)), zst_ne (by decide), hr.2.2, hst]
theorem zRd_s {h2 h4 : zM} {a : Nat} {r : zRr} {W : zW} {x : Int} (hr : zRd h2 a r) (hst : r.2.2.2 = false) (hG : zF (zRf a) (zx_st h2 a 3 x) h4) (hx : x = h2 a 3 + 1) (hc4 : zRc h4 a (zdos (W.2.2 r.2.1) (W.2.1 r.2.1 1).toNat r.1)) (e2 : W.2.1 r.2.1 2 = 2) : zRd (zx_st h4 a 5 1) a (zrd W r) := by
  rw [zrd, if_neg (by rw [hst]; decide), zrd1, if_pos e2]
  refine ⟨hc4.w5 1, ?_, ?_⟩
  · rw [zst_ne (by decide), hG a 3 (zRf_k (Or.inl rfl)), zst_eq, hx, hr.2.1]
    rfl
  · rw [zst_eq]
    rfl
theorem zrd_p {W : zW} (hw : zWw W) {r : zRr} (hst : r.2.2.2 = false) (hp : r.2.1 < W.1) (e2 : ¬ W.2.1 r.2.1 2 = 2) : (if W.2.1 r.2.1 2 = 0 ∨ ¬ (zdos (W.2.2 r.2.1) (W.2.1 r.2.1 1).toNat r.1).1 (W.2.1 r.2.1 5) = 0 then W.2.1 r.2.1 3 else W.2.1 r.2.1 4) = ((zrd W r).2.1 : Int) := by
  have he := (hw.2 _ hp).2.1
  unfold zWE at he
  have hz : zrd W r = zrd1 W (zdos (W.2.2 r.2.1) (W.2.1 r.2.1 1).toNat r.1) r.2.1 r.2.2.1 := by rw [zrd, if_neg (by rw [hst]; decide)]
  rw [hz, zrd1, if_neg e2]
  show _ = ((if _ then _ else _ : Int).toNat : Int)
  split <;> omega
set_option maxHeartbeats 4000000 in
set_option maxRecDepth 100000 in
/-- Run.go -/
theorem s_181 {a b c : Nat} (hk : zRk a b c) {h : zM} {W : zW} (hv : zVw h b W) (hw : zWw W) {u : Int} {f : Int → Int} (hf : ∀ v, 0 ≤ v → v < 6 → f v = if zx_and (zx_shr u v) 1 = 0 then 0 else (if h 45 v < 0 then h c v else h 45 v)) (hfb : ∀ v, 0 ≤ v → v < 6 → 0 ≤ f v ∧ f v ≤ 99) {Q : zQ} (hq : ∀ h2, zF (zRg a) h h2 → zRd h2 a (zrn W f 300) → Q none h2) : zR 181 [.inr (.inr a), .inr (.inr b), .inr (.inr c), .inr (.inr 45), .inl u] h Q := by
  have hvn := hv.2.1
  obtain ⟨A, hA⟩ : ∃ A, A = a := ⟨_, rfl⟩
  obtain ⟨B, hB⟩ : ∃ B, B = b := ⟨_, rfl⟩
  obtain ⟨C, hC⟩ : ∃ C, C = c := ⟨_, rfl⟩
  have hk0 := hk
  rcases hk with ⟨rfl, rfl, rfl⟩ | ⟨rfl, rfl, rfl⟩ | ⟨rfl, rfl, rfl⟩ | ⟨rfl, rfl, rfl⟩
  all_goals
    refine zx_met zk_181 (Or.inr ⟨_, _, rfl, rfl⟩) (Nat.le_of_ble_eq_true rfl) (fun _ => false) 1000 (fun m j L S h2 => (j = 2 ∧ S = [] ∧ ∃ (k : Nat) (q : Option zV), L = [some (.inr (.inr A)), some (.inr (.inr B)), some (.inr (.inr C)), some (.inr (.inr 45)), some (.inl u), some (.inl (k : Int)), q] ∧ k ≤ 6 ∧ m = 6 - k + 1000 ∧ zF (zRg A) h h2 ∧ ∀ v, 0 ≤ v → v < (k : Int) → h2 (A + 1) v = f v) ∨
    (j = 54 ∧ S = [] ∧ ∃ (i : Nat) (p : Int), L = [some (.inr (.inr A)), some (.inr (.inr B)), some (.inr (.inr C)), some (.inr (.inr 45)), some (.inl u), some (.inl p), some (.inl (i : Int))] ∧ i ≤ 300 ∧ m = 300 - i ∧ zF (zRg A) h h2 ∧ zRd h2 A (zrn W f i) ∧ ((zrn W f i).2.2.2 = false → p = ((zrn W f i).2.1 : Int)))) (fun hok hM => ?_) (fun hok hM => ?_)
    · subst hA
      subst hB
      subst hC
      exact ⟨_, Or.inl ⟨rfl, rfl, 0, _, rfl, by omega, rfl, zF.rf, fun v h0 h1 => by omega⟩⟩
    · rintro n i L S h2 hM2 (hI | hI)
      · subst hA
        subst hB
        subst hC
        obtain ⟨rfl, rfl, k, q, rfl, hk6, hm, hF, hv2⟩ := hI
        have g45 : ∀ v, h2 45 v = h 45 v := fun v => hF _ _ rfl
        constructor
        · intro c1
          refine And.intro (by show 0 ≤ _ ∧ _ < (6 : Int); omega) ?_
          constructor
          · intro c2
            refine And.intro (by show 0 ≤ _ ∧ _ < (6 : Int); omega) ?_
            refine s_43 (fun hz => ?_) (fun hz => ?_)
            · refine And.intro (fun c => absurd c (by decide)) (fun _ => ?_)
              refine And.intro (by show 0 ≤ _ ∧ _ < (6 : Int); omega) ?_
              refine And.intro (by omega) ?_
              refine ⟨_, ?_, Or.inl ⟨rfl, rfl, k + 1, _, rfl, by omega, rfl, hF.st rfl, zfill hv2 ?_⟩⟩
              · omega
              · first
                | (rw [hf _ (by omega) (by omega), if_pos hz])
                | (rw [hf _ (by omega) (by omega), if_neg hz, if_pos (by rw [← g45]; assumption)]; exact hF _ _ rfl)
                | (rw [hf _ (by omega) (by omega), if_neg hz, if_neg (by rw [← g45]; assumption)]; exact hF _ _ rfl)
            · refine And.intro (fun _ => ?_) (fun c => absurd (by decide) c)
              refine And.intro (by show 0 ≤ _ ∧ _ < (6 : Int); omega) ?_
              refine And.intro (by omega) ?_
              refine ⟨_, ?_, Or.inl ⟨rfl, rfl, k + 1, _, rfl, by omega, rfl, hF.st rfl, zfill hv2 ?_⟩⟩
              · omega
              · first
                | (rw [hf _ (by omega) (by omega), if_pos hz])
                | (rw [hf _ (by omega) (by omega), if_neg hz, if_pos (by rw [← g45]; assumption)]; exact hF _ _ rfl)
                | (rw [hf _ (by omega) (by omega), if_neg hz, if_neg (by rw [← g45]; assumption)]; exact hF _ _ rfl)
          · intro c2
            refine And.intro (by show 0 ≤ _ ∧ _ < (6 : Int); omega) ?_
            refine s_43 (fun hz => ?_) (fun hz => ?_)
            · refine And.intro (fun c => absurd c (by decide)) (fun _ => ?_)
              refine And.intro (by show 0 ≤ _ ∧ _ < (6 : Int); omega) ?_
              refine And.intro (by omega) ?_
              refine ⟨_, ?_, Or.inl ⟨rfl, rfl, k + 1, _, rfl, by omega, rfl, hF.st rfl, zfill hv2 ?_⟩⟩
              · omega
              · first
                | (rw [hf _ (by omega) (by omega), if_pos hz])
                | (rw [hf _ (by omega) (by omega), if_neg hz, if_pos (by rw [← g45]; assumption)]; exact hF _ _ rfl)
                | (rw [hf _ (by omega) (by omega), if_neg hz, if_neg (by rw [← g45]; assumption)]; exact hF _ _ rfl)
            · refine And.intro (fun _ => ?_) (fun c => absurd (by decide) c)
              refine And.intro (by show 0 ≤ _ ∧ _ < (6 : Int); omega) ?_
              refine And.intro (by omega) ?_
              refine ⟨_, ?_, Or.inl ⟨rfl, rfl, k + 1, _, rfl, by omega, rfl, hF.st rfl, zfill hv2 ?_⟩⟩
              · omega
              · first
                | (rw [hf _ (by omega) (by omega), if_pos hz])
                | (rw [hf _ (by omega) (by omega), if_neg hz, if_pos (by rw [← g45]; assumption)]; exact hF _ _ rfl)
                | (rw [hf _ (by omega) (by omega), if_neg hz, if_neg (by rw [← g45]; assumption)]; exact hF _ _ rfl)
        · intro c1
          constructor
          · intro c3
            simp [zx_st] at c3
            refine And.intro (by first | exact Or.inl rfl | exact Or.inr rfl | omega) ?_
            first
            | (have k6 : k = 6 := by omega
               subst k6
               have e7 := (hv.fr (fun w k hw => hF _ _ (zRg_w hk0 hw))).2.1
               refine ⟨_, ?_, Or.inr ⟨rfl, rfl, 0, _, rfl, by omega, rfl, ((((hF.st rfl).st rfl).st rfl).st rfl).st rfl, zRd0 hv2 ?_, fun _ => rfl⟩⟩
               · omega
               · split <;> omega)
            | (refine ⟨_, ?_, Or.inr ⟨rfl, rfl, i + 1, _, rfl, by omega, rfl, (hF.st rfl).tr (zRf_g hG), zRd_n hr hst hG rfl hc4 e2, fun _ => zrd_p hw hst o2 e2⟩⟩
               omega)
            | (refine ⟨_, ?_, Or.inr ⟨rfl, rfl, i + 1, _, rfl, by omega, rfl, ((hF.st rfl).tr (zRf_g hG)).st rfl, zRd_s hr hst hG rfl hc4 e2, fun q => ?_⟩⟩
               · omega
               · have q : (zrd W (zrn W f i)).2.2.2 = false := q
                 rw [zrd, if_neg (by rw [hst]; decide), zrd1, if_pos e2] at q
                 cases q)
          · intro c3
            simp [zx_st] at c3
            refine And.intro (by first | exact Or.inl rfl | exact Or.inr rfl | omega) ?_
            first
            | (have k6 : k = 6 := by omega
               subst k6
               have e7 := (hv.fr (fun w k hw => hF _ _ (zRg_w hk0 hw))).2.1
               refine ⟨_, ?_, Or.inr ⟨rfl, rfl, 0, _, rfl, by omega, rfl, ((((hF.st rfl).st rfl).st rfl).st rfl).st rfl, zRd0 hv2 ?_, fun _ => rfl⟩⟩
               · omega
               · split <;> omega)
            | (refine ⟨_, ?_, Or.inr ⟨rfl, rfl, i + 1, _, rfl, by omega, rfl, (hF.st rfl).tr (zRf_g hG), zRd_n hr hst hG rfl hc4 e2, fun _ => zrd_p hw hst o2 e2⟩⟩
               omega)
            | (refine ⟨_, ?_, Or.inr ⟨rfl, rfl, i + 1, _, rfl, by omega, rfl, ((hF.st rfl).tr (zRf_g hG)).st rfl, zRd_s hr hst hG rfl hc4 e2, fun q => ?_⟩⟩
               · omega
               · have q : (zrd W (zrn W f i)).2.2.2 = false := q
                 rw [zrd, if_neg (by rw [hst]; decide), zrd1, if_pos e2] at q
                 cases q)
      · subst hA
        subst hB
        subst hC
        obtain ⟨rfl, rfl, i, p, rfl, hi, hm, hF, hr, hp⟩ := hI
        have hv2 := hv.fr (fun w k hw => hF _ _ (zRg_w hk0 hw))
        have ho := zrn_o hw hfb i
        have hw3 := hr.2.1
        have ho2 := ho.2.1
        constructor
        · intro c4
          constructor
          · intro c5
            refine And.intro (by omega) ?_
            have hst := zRd_ns hr (by assumption)
            obtain ⟨o1, o2⟩ := ho.2.2 hst
            have hp := hp hst
            subst hp
            refine s_182 (by omega) (by omega) (hv2.fr (fun w k hw => zst_nr (by omega))) hw o2 (hr.1.w _) (ho.1.mono (by omega)) (fun h4 hG hc4 => ?_)
            refine s_183 (by omega) (by omega) ((hv2.fr (fun w k hw => zst_nr (by omega))).fr (fun w k hw => (zRf_g hG) _ _ (zRg_w hk0 hw))) hw o2 hc4.2.2.2 (fun e2 => ?_) (fun e2 => ?_)
            · refine And.intro (by omega) ?_
              first
              | (have k6 : k = 6 := by omega
                 subst k6
                 have e7 := (hv.fr (fun w k hw => hF _ _ (zRg_w hk0 hw))).2.1
                 refine ⟨_, ?_, Or.inr ⟨rfl, rfl, 0, _, rfl, by omega, rfl, ((((hF.st rfl).st rfl).st rfl).st rfl).st rfl, zRd0 hv2 ?_, fun _ => rfl⟩⟩
                 · omega
                 · split <;> omega)
              | (refine ⟨_, ?_, Or.inr ⟨rfl, rfl, i + 1, _, rfl, by omega, rfl, (hF.st rfl).tr (zRf_g hG), zRd_n hr hst hG rfl hc4 e2, fun _ => zrd_p hw hst o2 e2⟩⟩
                 omega)
              | (refine ⟨_, ?_, Or.inr ⟨rfl, rfl, i + 1, _, rfl, by omega, rfl, ((hF.st rfl).tr (zRf_g hG)).st rfl, zRd_s hr hst hG rfl hc4 e2, fun q => ?_⟩⟩
                 · omega
                 · have q : (zrd W (zrn W f i)).2.2.2 = false := q
                   rw [zrd, if_neg (by rw [hst]; decide), zrd1, if_pos e2] at q
                   cases q)
            · refine And.intro (by omega) ?_
              first
              | (have k6 : k = 6 := by omega
                 subst k6
                 have e7 := (hv.fr (fun w k hw => hF _ _ (zRg_w hk0 hw))).2.1
                 refine ⟨_, ?_, Or.inr ⟨rfl, rfl, 0, _, rfl, by omega, rfl, ((((hF.st rfl).st rfl).st rfl).st rfl).st rfl, zRd0 hv2 ?_, fun _ => rfl⟩⟩
                 · omega
                 · split <;> omega)
              | (refine ⟨_, ?_, Or.inr ⟨rfl, rfl, i + 1, _, rfl, by omega, rfl, (hF.st rfl).tr (zRf_g hG), zRd_n hr hst hG rfl hc4 e2, fun _ => zrd_p hw hst o2 e2⟩⟩
                 omega)
              | (refine ⟨_, ?_, Or.inr ⟨rfl, rfl, i + 1, _, rfl, by omega, rfl, ((hF.st rfl).tr (zRf_g hG)).st rfl, zRd_s hr hst hG rfl hc4 e2, fun q => ?_⟩⟩
                 · omega
                 · have q : (zrd W (zrn W f i)).2.2.2 = false := q
                   rw [zrd, if_neg (by rw [hst]; decide), zrd1, if_pos e2] at q
                   cases q)
          · intro c5
            first
            | (have e3 : zrn W f i = zrn W f 300 := zrn_300 hi (Or.inl (by omega))
               rw [e3] at hr
               exact hq _ hF hr)
            | (have e3 : zrn W f i = zrn W f 300 := zrn_300 hi (Or.inr (zRd_sp hr (by assumption)))
               rw [e3] at hr
               exact hq _ hF hr)
        · intro c4
          first
          | (have e3 : zrn W f i = zrn W f 300 := zrn_300 hi (Or.inl (by omega))
             rw [e3] at hr
             exact hq _ hF hr)
          | (have e3 : zrn W f i = zrn W f 300 := zrn_300 hi (Or.inr (zRd_sp hr (by assumption)))
             rw [e3] at hr
             exact hq _ hF hr)
