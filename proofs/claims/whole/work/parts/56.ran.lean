/-! Runs asked for -/
/-- the VALUES with which a run begins -/
def zsg (G : zG) (f : Int → Int) : Int → Int := fun v => if G.2.2.2.2.1 v < 0 then f v else G.2.2.2.2.1 v
def zsu (G : zG) (f : Int → Int) : Int → Int := fun v => if Nat.testBit (zUG G) v.toNat = false then 0 else zsg G f v
def zro (G : zG) (f : Int → Int) : zRr := zrn (zGW G) (zsg G f) 300
def zrl (G : zG) (f : Int → Int) : zRr := zrn (zPW G) (zsu G f) 300
theorem zsg_b {G : zG} (hw : zWf G) {f : Int → Int} (hf : zVb f) : zVb (zsg G f) := by
  intro v h0 h6
  unfold zsg
  have := hw.2.2.2.2.1 v h0 h6
  split
  · exact hf v h0 h6
  · omega
theorem zsu_b {G : zG} (hw : zWf G) {f : Int → Int} (hf : zVb f) : zVb (zsu G f) := by
  intro v h0 h6
  unfold zsu
  split
  · omega
  · exact zsg_b hw hf v h0 h6
theorem zsg_c {G : zG} {h : zM} (hp : zPc h 12 44 G) {f : Int → Int} {c : Nat} (hf : ∀ v, 0 ≤ v → v < 6 → h c v = f v) {v : Int} (h0 : 0 ≤ v) (h6 : v < 6) : zsg G f v = if h 45 v < 0 then h c v else h 45 v := by
  have e : h 45 v = _ := hp.2.2.2.2.1 v h0 h6
  unfold zsg
  rw [hf v h0 h6, e]
  by_cases q : G.2.2.2.2.1 v < 0
  · simp only [if_pos q]; rfl
  · simp only [if_neg q]
theorem zbits {v : Int} (h0 : 0 ≤ v) (h6 : v < 6) : ¬ zx_and (zx_shr 63 v) 1 = 0 := by
  have := zB_bit 63 (by omega) v.toNat (by omega)
  rw [Int.toNat_of_nonneg h0] at this
  intro q
  have q2 := this.mp q
  rw [(zB_63 0 (by omega) v.toNat (by omega)).2] at q2
  cases q2
theorem zbitu {G : zG} (hw : zWf G) {v : Int} (h0 : 0 ≤ v) (h6 : v < 6) : zx_and (zx_shr (zUG G : Int) v) 1 = 0 ↔ Nat.testBit (zUG G) v.toNat = false := by
  have := zB_bit _ (zUG_b hw) v.toNat (by omega)
  rw [Int.toNat_of_nonneg h0] at this
  exact this
theorem s_181o {h : zM} {G : zG} (hp : zPc h 12 44 G) (hw : zWf G) {a c : Nat} (hk : (a = 64 ∧ c = 70) ∨ (a = 66 ∧ c = 71)) {f : Int → Int} (hf : ∀ v, 0 ≤ v → v < 6 → h c v = f v) (hfb : zVb f) {Q : zQ} (hq : ∀ h2, zF (zRg a) h h2 → zRd h2 a (zro G f) → Q none h2) : zR 181 [.inr (.inr a), .inr (.inr 12), .inr (.inr c), .inr (.inr 45), .inl 63] h Q :=
  s_181 (by unfold zRk; omega) (hp.v hw) hw.w (fun v h0 h6 => by rw [if_neg (zbits h0 h6)]; exact zsg_c hp hf h0 h6) (zsg_b hw hfb) hq
theorem s_181l {h : zM} {G : zG} (hp : zPc h 12 44 G) (hw : zWf G) (hv : zVw h 36 (zPW G)) {a c : Nat} (hk : (a = 64 ∧ c = 70) ∨ (a = 68 ∧ c = 71)) {u : Int} (hu : u = (zUG G : Int)) {f : Int → Int} (hf : ∀ v, 0 ≤ v → v < 6 → h c v = f v) (hfb : zVb f) {Q : zQ} (hq : ∀ h2, zF (zRg a) h h2 → zRd h2 a (zrl G f) → Q none h2) : zR 181 [.inr (.inr a), .inr (.inr 36), .inr (.inr c), .inr (.inr 45), .inl u] h Q := by
  subst hu
  refine s_181 (by unfold zRk; omega) hv (zPW_w hw) (fun v h0 h6 => ?_) (zsu_b hw hfb) hq
  unfold zsu
  by_cases q : zx_and (zx_shr (zUG G : Int) v) 1 = 0
  · rw [if_pos q, if_pos ((zbitu hw h0 h6).mp q)]
  · rw [if_neg q, if_neg (fun z => q ((zbitu hw h0 h6).mpr z))]
    exact zsg_c hp hf h0 h6
theorem zRd_a {h : zM} {a : Nat} {r : zRr} (hr : zRd h a r) : (if r.2.2.2 = true then (r.1.2.2.2 : Int) else -2) = if h a 5 = 0 then -2 else h a 4 := by
  have e5 := hr.2.2
  have e4 := hr.1.2.2.1
  cases q : r.2.2.2
  · rw [q] at e5
    rw [if_neg (by decide), if_pos (by rw [e5]; rfl)]
  · rw [q] at e5
    rw [if_pos rfl, if_neg (by rw [e5]; decide), e4]
theorem zRd.st {h : zM} {a : Nat} {r : zRr} (hr : zRd h a r) {b : Nat} (h1 : b ≠ a) (h2 : b ≠ a + 1) (k v : Int) : zRd (zx_st h b k v) a r := by
  obtain ⟨⟨a1, a2, a3, a4⟩, b1, b2⟩ := hr
  refine ⟨⟨?_, ?_, ?_, fun v h0 h6 => ?_⟩, ?_, ?_⟩
  · rw [zst_nr (Ne.symm h1)]; exact a1
  · rw [zst_nr (Ne.symm h1)]; exact a2
  · rw [zst_nr (Ne.symm h1)]; exact a3
  · rw [zst_nr (Ne.symm h2)]; exact a4 v h0 h6
  · rw [zst_nr (Ne.symm h1)]; exact b1
  · rw [zst_nr (Ne.symm h1)]; exact b2
def zRu : Nat → Int → Bool := fun r k => zRg 64 r k || (Nat.beq r 0 && decide (k = 15))
theorem zRu_g {h h2 : zM} (hF : zF (zRg 64) h h2) : zF zRu h h2 := hF.mono (fun r j hf => (Bool.or_eq_false_iff.mp hf).1)
def zCh : Nat → Int → Bool := fun r k => zCf r k || zRu r k
theorem zCh_c {h h2 : zM} (hF : zF zCf h h2) : zF zCh h h2 := hF.mono (fun r j hf => (Bool.or_eq_false_iff.mp hf).1)
theorem zCh_u {h h2 : zM} (hF : zF zRu h h2) : zF zCh h h2 := hF.mono (fun r j hf => (Bool.or_eq_false_iff.mp hf).2)
theorem zCx.fr2 {h h2 : zM} {G : zG} (hc : zCx h G) (e0 : ∀ k, k = 14 ∨ k = 16 → h2 0 k = h 0 k) (e : ∀ r k, (36 ≤ r ∧ r ≤ 43) ∨ (52 ≤ r ∧ r ≤ 57) ∨ r = 60 ∨ r = 61 → h2 r k = h r k) : zCx h2 G := by
  obtain ⟨a, b, c⟩ := hc
  refine ⟨(e0 _ (by omega)).trans a, b.fr (fun r k hr => e _ _ (by omega)), ?_⟩
  rw [e0 14 (by omega)]
  refine c.imp id ?_
  rintro ⟨k, c1, c2, c3, c4⟩
  exact ⟨k, c1, c2, (e _ _ (by omega)).trans c3, fun q hq => (e _ _ (by omega)).trans (c4 q hq)⟩
theorem zRu_n {r : Nat} {k : Int} (h : 0 < r) (h1 : r ≠ 64) (h2 : r ≠ 65) : zRu r k = false := by
  unfold zRu zRg
  rw [zbeq_ne h1, zbeq_ne h2, zbeq_ne (show r ≠ 0 by omega)]
  rfl
theorem zCx.U {h h2 : zM} {G : zG} (hc : zCx h G) (hF : zF zRu h h2) : zCx h2 G := hc.fr2 (fun k hk => by rcases hk with rfl | rfl <;> exact hF _ _ rfl) (fun r k hr => hF _ _ (zRu_n (by omega) (by omega) (by omega)))
set_option maxHeartbeats 4000000 in
set_option maxRecDepth 100000 in
/-- C.run -/
theorem s_15 {h : zM} {G : zG} (hp : zPc h 12 44 G) (hw : zWf G) {f : Int → Int} (hf : ∀ v, 0 ≤ v → v < 6 → h 70 v = f v) (hfb : zVb f) {Q : zQ} (hq : ∀ h2, zF zRu h h2 → h2 0 15 = 1 → zRd h2 64 (zro G f) → Q (some (.inl (if (zro G f).2.2.2 = true then ((zro G f).1.2.2.2 : Int) else -2))) h2) : zR 15 [.inr (.inr 0)] h Q := by
  refine zx_met0 zk_15 (Or.inr ⟨_, _, rfl, rfl⟩) (Nat.le_of_ble_eq_true rfl) 1000 (fun hok hM => ?_)
  refine s_42 ?_
  refine s_181o hp hw (Or.inl ⟨rfl, rfl⟩) hf hfb (fun h2 hF hr => ?_)
  replace hq := hq _ ((zRu_g hF).st rfl) (zst_eq _ _ _ _) (hr.st (by omega) (by omega) 15 1)
  rw [zRd_a hr] at hq
  refine And.intro (by first | exact Or.inl rfl | exact Or.inr rfl | omega) ?_
  constructor
  · intro c1
    first
    | (rw [if_pos (by assumption)] at hq; exact hq)
    | (rw [if_neg (by assumption)] at hq; exact hq)
  · intro c1
    first
    | (rw [if_pos (by assumption)] at hq; exact hq)
    | (rw [if_neg (by assumption)] at hq; exact hq)
set_option maxHeartbeats 4000000 in
set_option maxRecDepth 100000 in
/-- C.runLeft -/
theorem s_16 {h : zM} {G : zG} (hp : zPc h 12 44 G) (hw : zWf G) (hc : zCp h G) {f : Int → Int} (hf : ∀ v, 0 ≤ v → v < 6 → h 70 v = f v) (hfb : zVb f) {Q : zQ} (h0 : (zPW G).1 = 0 → ∀ h2, zF zCf h h2 → zCp h2 G → Q (some (.inl (-4))) h2) (h1 : 0 < (zPW G).1 → ∀ h2, zF zCh h h2 → zCp h2 G → h2 0 15 = 1 → zRd h2 64 (zrl G f) → Q (some (.inl (if (zrl G f).2.2.2 = true then ((zrl G f).1.2.2.2 : Int) else -2))) h2) : zR 16 [.inr (.inr 0)] h Q := by
  have hq := h1
  refine zx_met0 zk_16 (Or.inr ⟨_, _, rfl, rfl⟩) (Nat.le_of_ble_eq_true rfl) 1000 (fun hok hM => ?_)
  refine s_28 hp hw hc (fun h1 hF1 hc1 => ?_)
  have f1 := hc1.2.1
  have e7 := f1.2.2.2.1.2.1
  have n40 := (zPW_w hw).1
  have hp1 : zPc h1 12 44 G := hp.fr (fun w k hw => hF1 _ _ (zCf_n (by omega))) (fun k => hF1 _ _ (zCf_n (by omega))) (fun k => hF1 _ _ (zCf_n (by omega)))
  constructor
  · intro c1
    first
    | (exact h0 (by omega) _ hF1 hc1.p)
    | (rw [if_pos (by assumption)] at hq; exact hq)
    | (rw [if_neg (by assumption)] at hq; exact hq)
  · intro c1
    refine s_181l hp1 hw f1.2.2.2.1 (Or.inl ⟨rfl, rfl⟩) f1.1 (fun v h0 h6 => (hF1 _ _ (zCf_n (by omega))).trans (hf v h0 h6)) hfb (fun h2 hF hr => ?_)
    have hF3 : zF zRu h1 (zx_st h2 0 15 1) := (zRu_g hF).st rfl
    replace hq := hq (by omega) _ ((zCh_c hF1).tr (zCh_u hF3)) (hc1.U hF3).p (zst_eq _ _ _ _) (hr.st (by omega) (by omega) 15 1)
    rw [zRd_a hr] at hq
    refine And.intro (by first | exact Or.inl rfl | exact Or.inr rfl | omega) ?_
    constructor
    · intro c2
      first
      | (exact h0 (by omega) _ hF1 hc1.p)
      | (rw [if_pos (by assumption)] at hq; exact hq)
      | (rw [if_neg (by assumption)] at hq; exact hq)
    · intro c2
      first
      | (exact h0 (by omega) _ hF1 hc1.p)
      | (rw [if_pos (by assumption)] at hq; exact hq)
      | (rw [if_neg (by assumption)] at hq; exact hq)
def zaT (b : Int) (r : zRr) (w : Int) : Int := if (0 ≤ w ∧ w ≤ 3) ∨ (10 ≤ w ∧ w ≤ 15) then (if b = 0 then (if w = 0 then 0 else -4) else if w = 0 then r.1.2.1 else if w = 1 then (r.1.2.2.1 : Int) else if w = 2 then (r.2.2.1 : Int) else if w = 3 then (if r.2.2.2 = true then 1 else 0) else r.1.1 (w - 10)) else -1
theorem zwr10 {w : Int} (h : -2147483648 ≤ w ∧ w < 2147483648) : (0 ≤ zx_wr (w - 10) ∧ zx_wr (w - 10) < 6) ↔ (10 ≤ w ∧ w ≤ 15) := by
  have e : zx_wr (w - 10) = Int.bmod (w - 10) 4294967296 := by
    unfold zx_wr
    rw [Int32.toInt_ofInt]
  rw [e]
  unfold Int.bmod
  simp only
  split <;> omega
set_option maxHeartbeats 4000000 in
set_option maxRecDepth 100000 in
/-- C.told -/
theorem s_17 {h : zM} {r : zRr} {w : Int} (hr : ¬ h 0 15 = 0 → zRd h 64 r) {Q : zQ} (hq : Q (some (.inl (zaT (h 0 15) r w))) h) : zR 17 [.inr (.inr 0), .inl w] h Q := by
  refine zx_met0 zk_17 (Or.inr ⟨_, _, rfl, rfl⟩) (Nat.le_of_ble_eq_true rfl) 1000 (fun hok hM => ?_)
  have hwb : -2147483648 ≤ w ∧ w < 2147483648 := hok (.inl w) (by simp)
  have hw10 := zwr10 hwb
  refine s_38 (fun a1 => ?_) (fun a1 => ?_)
  all_goals unfold zaT at hq
  all_goals rw [hw10] at a1
  · constructor
    · intro c1
      first
      | (rw [if_neg (by omega)] at hq; exact hq)
      | (rw [if_pos (by omega), if_pos (by assumption), if_pos (by omega)] at hq; exact hq)
      | (rw [if_pos (by omega), if_pos (by assumption), if_neg (by omega)] at hq; exact hq)
      | (rw [if_pos (by omega), if_neg (by assumption), if_neg (by omega), if_neg (by omega), if_neg (by omega), if_neg (by omega), ← hr.1.2.2.2 _ (by omega) (by omega)] at hq; exact hq)
      | (rw [if_pos (by omega), if_neg (by assumption), if_pos (by omega), ← hr.1.1] at hq; exact hq)
      | (rw [if_pos (by omega), if_neg (by assumption), if_neg (by omega), if_pos (by omega), ← hr.1.2.1] at hq; exact hq)
      | (rw [if_pos (by omega), if_neg (by assumption), if_neg (by omega), if_neg (by omega), if_pos (by omega), ← hr.2.1] at hq; exact hq)
      | (rw [if_pos (by omega), if_neg (by assumption), if_neg (by omega), if_neg (by omega), if_neg (by omega), if_pos (by omega)] at hq
         have e5 := hr.2.2
         cases q : r.2.2.2
         · rw [q] at hq e5
           have e5 : h 64 5 = 0 := e5
           first
           | (exfalso; omega)
           | exact hq
         · rw [q] at hq e5
           have e5 : h 64 5 = 1 := e5
           first
           | (exfalso; omega)
           | exact hq)
    · intro c1
      constructor
      · intro c2
        refine And.intro (fun c => absurd c (by decide)) (fun _ => ?_)
        constructor
        · intro c3
          constructor
          · intro c4
            first
            | (rw [if_neg (by omega)] at hq; exact hq)
            | (rw [if_pos (by omega), if_pos (by assumption), if_pos (by omega)] at hq; exact hq)
            | (rw [if_pos (by omega), if_pos (by assumption), if_neg (by omega)] at hq; exact hq)
            | (rw [if_pos (by omega), if_neg (by assumption), if_neg (by omega), if_neg (by omega), if_neg (by omega), if_neg (by omega), ← hr.1.2.2.2 _ (by omega) (by omega)] at hq; exact hq)
            | (rw [if_pos (by omega), if_neg (by assumption), if_pos (by omega), ← hr.1.1] at hq; exact hq)
            | (rw [if_pos (by omega), if_neg (by assumption), if_neg (by omega), if_pos (by omega), ← hr.1.2.1] at hq; exact hq)
            | (rw [if_pos (by omega), if_neg (by assumption), if_neg (by omega), if_neg (by omega), if_pos (by omega), ← hr.2.1] at hq; exact hq)
            | (rw [if_pos (by omega), if_neg (by assumption), if_neg (by omega), if_neg (by omega), if_neg (by omega), if_pos (by omega)] at hq
               have e5 := hr.2.2
               cases q : r.2.2.2
               · rw [q] at hq e5
                 have e5 : h 64 5 = 0 := e5
                 first
                 | (exfalso; omega)
                 | exact hq
               · rw [q] at hq e5
                 have e5 : h 64 5 = 1 := e5
                 first
                 | (exfalso; omega)
                 | exact hq)
          · intro c4
            first
            | (rw [if_neg (by omega)] at hq; exact hq)
            | (rw [if_pos (by omega), if_pos (by assumption), if_pos (by omega)] at hq; exact hq)
            | (rw [if_pos (by omega), if_pos (by assumption), if_neg (by omega)] at hq; exact hq)
            | (rw [if_pos (by omega), if_neg (by assumption), if_neg (by omega), if_neg (by omega), if_neg (by omega), if_neg (by omega), ← hr.1.2.2.2 _ (by omega) (by omega)] at hq; exact hq)
            | (rw [if_pos (by omega), if_neg (by assumption), if_pos (by omega), ← hr.1.1] at hq; exact hq)
            | (rw [if_pos (by omega), if_neg (by assumption), if_neg (by omega), if_pos (by omega), ← hr.1.2.1] at hq; exact hq)
            | (rw [if_pos (by omega), if_neg (by assumption), if_neg (by omega), if_neg (by omega), if_pos (by omega), ← hr.2.1] at hq; exact hq)
            | (rw [if_pos (by omega), if_neg (by assumption), if_neg (by omega), if_neg (by omega), if_neg (by omega), if_pos (by omega)] at hq
               have e5 := hr.2.2
               cases q : r.2.2.2
               · rw [q] at hq e5
                 have e5 : h 64 5 = 0 := e5
                 first
                 | (exfalso; omega)
                 | exact hq
               · rw [q] at hq e5
                 have e5 : h 64 5 = 1 := e5
                 first
                 | (exfalso; omega)
                 | exact hq)
        · intro c3
          refine And.intro (fun c => absurd c (by decide)) (fun _ => ?_)
          have hr := hr (by assumption)
          refine And.intro (by omega) ?_
          refine And.intro (by show 0 ≤ _ ∧ _ < (6 : Int); omega) ?_
          first
          | (rw [if_neg (by omega)] at hq; exact hq)
          | (rw [if_pos (by omega), if_pos (by assumption), if_pos (by omega)] at hq; exact hq)
          | (rw [if_pos (by omega), if_pos (by assumption), if_neg (by omega)] at hq; exact hq)
          | (rw [if_pos (by omega), if_neg (by assumption), if_neg (by omega), if_neg (by omega), if_neg (by omega), if_neg (by omega), ← hr.1.2.2.2 _ (by omega) (by omega)] at hq; exact hq)
          | (rw [if_pos (by omega), if_neg (by assumption), if_pos (by omega), ← hr.1.1] at hq; exact hq)
          | (rw [if_pos (by omega), if_neg (by assumption), if_neg (by omega), if_pos (by omega), ← hr.1.2.1] at hq; exact hq)
          | (rw [if_pos (by omega), if_neg (by assumption), if_neg (by omega), if_neg (by omega), if_pos (by omega), ← hr.2.1] at hq; exact hq)
          | (rw [if_pos (by omega), if_neg (by assumption), if_neg (by omega), if_neg (by omega), if_neg (by omega), if_pos (by omega)] at hq
             have e5 := hr.2.2
             cases q : r.2.2.2
             · rw [q] at hq e5
               have e5 : h 64 5 = 0 := e5
               first
               | (exfalso; omega)
               | exact hq
             · rw [q] at hq e5
               have e5 : h 64 5 = 1 := e5
               first
               | (exfalso; omega)
               | exact hq)
      · intro c2
        constructor
        · intro c5
          constructor
          · intro c6
            first
            | (rw [if_neg (by omega)] at hq; exact hq)
            | (rw [if_pos (by omega), if_pos (by assumption), if_pos (by omega)] at hq; exact hq)
            | (rw [if_pos (by omega), if_pos (by assumption), if_neg (by omega)] at hq; exact hq)
            | (rw [if_pos (by omega), if_neg (by assumption), if_neg (by omega), if_neg (by omega), if_neg (by omega), if_neg (by omega), ← hr.1.2.2.2 _ (by omega) (by omega)] at hq; exact hq)
            | (rw [if_pos (by omega), if_neg (by assumption), if_pos (by omega), ← hr.1.1] at hq; exact hq)
            | (rw [if_pos (by omega), if_neg (by assumption), if_neg (by omega), if_pos (by omega), ← hr.1.2.1] at hq; exact hq)
            | (rw [if_pos (by omega), if_neg (by assumption), if_neg (by omega), if_neg (by omega), if_pos (by omega), ← hr.2.1] at hq; exact hq)
            | (rw [if_pos (by omega), if_neg (by assumption), if_neg (by omega), if_neg (by omega), if_neg (by omega), if_pos (by omega)] at hq
               have e5 := hr.2.2
               cases q : r.2.2.2
               · rw [q] at hq e5
                 have e5 : h 64 5 = 0 := e5
                 first
                 | (exfalso; omega)
                 | exact hq
               · rw [q] at hq e5
                 have e5 : h 64 5 = 1 := e5
                 first
                 | (exfalso; omega)
                 | exact hq)
          · intro c6
            first
            | (rw [if_neg (by omega)] at hq; exact hq)
            | (rw [if_pos (by omega), if_pos (by assumption), if_pos (by omega)] at hq; exact hq)
            | (rw [if_pos (by omega), if_pos (by assumption), if_neg (by omega)] at hq; exact hq)
            | (rw [if_pos (by omega), if_neg (by assumption), if_neg (by omega), if_neg (by omega), if_neg (by omega), if_neg (by omega), ← hr.1.2.2.2 _ (by omega) (by omega)] at hq; exact hq)
            | (rw [if_pos (by omega), if_neg (by assumption), if_pos (by omega), ← hr.1.1] at hq; exact hq)
            | (rw [if_pos (by omega), if_neg (by assumption), if_neg (by omega), if_pos (by omega), ← hr.1.2.1] at hq; exact hq)
            | (rw [if_pos (by omega), if_neg (by assumption), if_neg (by omega), if_neg (by omega), if_pos (by omega), ← hr.2.1] at hq; exact hq)
            | (rw [if_pos (by omega), if_neg (by assumption), if_neg (by omega), if_neg (by omega), if_neg (by omega), if_pos (by omega)] at hq
               have e5 := hr.2.2
               cases q : r.2.2.2
               · rw [q] at hq e5
                 have e5 : h 64 5 = 0 := e5
                 first
                 | (exfalso; omega)
                 | exact hq
               · rw [q] at hq e5
                 have e5 : h 64 5 = 1 := e5
                 first
                 | (exfalso; omega)
                 | exact hq)
        · intro c5
          refine And.intro (fun c => absurd c (by decide)) (fun _ => ?_)
          have hr := hr (by assumption)
          refine And.intro (by omega) ?_
          refine And.intro (by show 0 ≤ _ ∧ _ < (6 : Int); omega) ?_
          first
          | (rw [if_neg (by omega)] at hq; exact hq)
          | (rw [if_pos (by omega), if_pos (by assumption), if_pos (by omega)] at hq; exact hq)
          | (rw [if_pos (by omega), if_pos (by assumption), if_neg (by omega)] at hq; exact hq)
          | (rw [if_pos (by omega), if_neg (by assumption), if_neg (by omega), if_neg (by omega), if_neg (by omega), if_neg (by omega), ← hr.1.2.2.2 _ (by omega) (by omega)] at hq; exact hq)
          | (rw [if_pos (by omega), if_neg (by assumption), if_pos (by omega), ← hr.1.1] at hq; exact hq)
          | (rw [if_pos (by omega), if_neg (by assumption), if_neg (by omega), if_pos (by omega), ← hr.1.2.1] at hq; exact hq)
          | (rw [if_pos (by omega), if_neg (by assumption), if_neg (by omega), if_neg (by omega), if_pos (by omega), ← hr.2.1] at hq; exact hq)
          | (rw [if_pos (by omega), if_neg (by assumption), if_neg (by omega), if_neg (by omega), if_neg (by omega), if_pos (by omega)] at hq
             have e5 := hr.2.2
             cases q : r.2.2.2
             · rw [q] at hq e5
               have e5 : h 64 5 = 0 := e5
               first
               | (exfalso; omega)
               | exact hq
             · rw [q] at hq e5
               have e5 : h 64 5 = 1 := e5
               first
               | (exfalso; omega)
               | exact hq)
  · constructor
    · intro c7
      first
      | (rw [if_neg (by omega)] at hq; exact hq)
      | (rw [if_pos (by omega), if_pos (by assumption), if_pos (by omega)] at hq; exact hq)
      | (rw [if_pos (by omega), if_pos (by assumption), if_neg (by omega)] at hq; exact hq)
      | (rw [if_pos (by omega), if_neg (by assumption), if_neg (by omega), if_neg (by omega), if_neg (by omega), if_neg (by omega), ← hr.1.2.2.2 _ (by omega) (by omega)] at hq; exact hq)
      | (rw [if_pos (by omega), if_neg (by assumption), if_pos (by omega), ← hr.1.1] at hq; exact hq)
      | (rw [if_pos (by omega), if_neg (by assumption), if_neg (by omega), if_pos (by omega), ← hr.1.2.1] at hq; exact hq)
      | (rw [if_pos (by omega), if_neg (by assumption), if_neg (by omega), if_neg (by omega), if_pos (by omega), ← hr.2.1] at hq; exact hq)
      | (rw [if_pos (by omega), if_neg (by assumption), if_neg (by omega), if_neg (by omega), if_neg (by omega), if_pos (by omega)] at hq
         have e5 := hr.2.2
         cases q : r.2.2.2
         · rw [q] at hq e5
           have e5 : h 64 5 = 0 := e5
           first
           | (exfalso; omega)
           | exact hq
         · rw [q] at hq e5
           have e5 : h 64 5 = 1 := e5
           first
           | (exfalso; omega)
           | exact hq)
    · intro c7
      constructor
      · intro c8
        refine And.intro (fun _ => ?_) (fun c => absurd (by decide) c)
        first
        | (rw [if_neg (by omega)] at hq; exact hq)
        | (rw [if_pos (by omega), if_pos (by assumption), if_pos (by omega)] at hq; exact hq)
        | (rw [if_pos (by omega), if_pos (by assumption), if_neg (by omega)] at hq; exact hq)
        | (rw [if_pos (by omega), if_neg (by assumption), if_neg (by omega), if_neg (by omega), if_neg (by omega), if_neg (by omega), ← hr.1.2.2.2 _ (by omega) (by omega)] at hq; exact hq)
        | (rw [if_pos (by omega), if_neg (by assumption), if_pos (by omega), ← hr.1.1] at hq; exact hq)
        | (rw [if_pos (by omega), if_neg (by assumption), if_neg (by omega), if_pos (by omega), ← hr.1.2.1] at hq; exact hq)
        | (rw [if_pos (by omega), if_neg (by assumption), if_neg (by omega), if_neg (by omega), if_pos (by omega), ← hr.2.1] at hq; exact hq)
        | (rw [if_pos (by omega), if_neg (by assumption), if_neg (by omega), if_neg (by omega), if_neg (by omega), if_pos (by omega)] at hq
           have e5 := hr.2.2
           cases q : r.2.2.2
           · rw [q] at hq e5
             have e5 : h 64 5 = 0 := e5
             first
             | (exfalso; omega)
             | exact hq
           · rw [q] at hq e5
             have e5 : h 64 5 = 1 := e5
             first
             | (exfalso; omega)
             | exact hq)
      · intro c8
        constructor
        · intro c9
          constructor
          · intro c10
            first
            | (rw [if_neg (by omega)] at hq; exact hq)
            | (rw [if_pos (by omega), if_pos (by assumption), if_pos (by omega)] at hq; exact hq)
            | (rw [if_pos (by omega), if_pos (by assumption), if_neg (by omega)] at hq; exact hq)
            | (rw [if_pos (by omega), if_neg (by assumption), if_neg (by omega), if_neg (by omega), if_neg (by omega), if_neg (by omega), ← hr.1.2.2.2 _ (by omega) (by omega)] at hq; exact hq)
            | (rw [if_pos (by omega), if_neg (by assumption), if_pos (by omega), ← hr.1.1] at hq; exact hq)
            | (rw [if_pos (by omega), if_neg (by assumption), if_neg (by omega), if_pos (by omega), ← hr.1.2.1] at hq; exact hq)
            | (rw [if_pos (by omega), if_neg (by assumption), if_neg (by omega), if_neg (by omega), if_pos (by omega), ← hr.2.1] at hq; exact hq)
            | (rw [if_pos (by omega), if_neg (by assumption), if_neg (by omega), if_neg (by omega), if_neg (by omega), if_pos (by omega)] at hq
               have e5 := hr.2.2
               cases q : r.2.2.2
               · rw [q] at hq e5
                 have e5 : h 64 5 = 0 := e5
                 first
                 | (exfalso; omega)
                 | exact hq
               · rw [q] at hq e5
                 have e5 : h 64 5 = 1 := e5
                 first
                 | (exfalso; omega)
                 | exact hq)
          · intro c10
            first
            | (rw [if_neg (by omega)] at hq; exact hq)
            | (rw [if_pos (by omega), if_pos (by assumption), if_pos (by omega)] at hq; exact hq)
            | (rw [if_pos (by omega), if_pos (by assumption), if_neg (by omega)] at hq; exact hq)
            | (rw [if_pos (by omega), if_neg (by assumption), if_neg (by omega), if_neg (by omega), if_neg (by omega), if_neg (by omega), ← hr.1.2.2.2 _ (by omega) (by omega)] at hq; exact hq)
            | (rw [if_pos (by omega), if_neg (by assumption), if_pos (by omega), ← hr.1.1] at hq; exact hq)
            | (rw [if_pos (by omega), if_neg (by assumption), if_neg (by omega), if_pos (by omega), ← hr.1.2.1] at hq; exact hq)
            | (rw [if_pos (by omega), if_neg (by assumption), if_neg (by omega), if_neg (by omega), if_pos (by omega), ← hr.2.1] at hq; exact hq)
            | (rw [if_pos (by omega), if_neg (by assumption), if_neg (by omega), if_neg (by omega), if_neg (by omega), if_pos (by omega)] at hq
               have e5 := hr.2.2
               cases q : r.2.2.2
               · rw [q] at hq e5
                 have e5 : h 64 5 = 0 := e5
                 first
                 | (exfalso; omega)
                 | exact hq
               · rw [q] at hq e5
                 have e5 : h 64 5 = 1 := e5
                 first
                 | (exfalso; omega)
                 | exact hq)
        · intro c9
          refine And.intro (fun _ => ?_) (fun c => absurd (by decide) c)
          have hr := hr (by assumption)
          constructor
          · intro c11
            first
            | (rw [if_neg (by omega)] at hq; exact hq)
            | (rw [if_pos (by omega), if_pos (by assumption), if_pos (by omega)] at hq; exact hq)
            | (rw [if_pos (by omega), if_pos (by assumption), if_neg (by omega)] at hq; exact hq)
            | (rw [if_pos (by omega), if_neg (by assumption), if_neg (by omega), if_neg (by omega), if_neg (by omega), if_neg (by omega), ← hr.1.2.2.2 _ (by omega) (by omega)] at hq; exact hq)
            | (rw [if_pos (by omega), if_neg (by assumption), if_pos (by omega), ← hr.1.1] at hq; exact hq)
            | (rw [if_pos (by omega), if_neg (by assumption), if_neg (by omega), if_pos (by omega), ← hr.1.2.1] at hq; exact hq)
            | (rw [if_pos (by omega), if_neg (by assumption), if_neg (by omega), if_neg (by omega), if_pos (by omega), ← hr.2.1] at hq; exact hq)
            | (rw [if_pos (by omega), if_neg (by assumption), if_neg (by omega), if_neg (by omega), if_neg (by omega), if_pos (by omega)] at hq
               have e5 := hr.2.2
               cases q : r.2.2.2
               · rw [q] at hq e5
                 have e5 : h 64 5 = 0 := e5
                 first
                 | (exfalso; omega)
                 | exact hq
               · rw [q] at hq e5
                 have e5 : h 64 5 = 1 := e5
                 first
                 | (exfalso; omega)
                 | exact hq)
          · intro c11
            constructor
            · intro c12
              first
              | (rw [if_neg (by omega)] at hq; exact hq)
              | (rw [if_pos (by omega), if_pos (by assumption), if_pos (by omega)] at hq; exact hq)
              | (rw [if_pos (by omega), if_pos (by assumption), if_neg (by omega)] at hq; exact hq)
              | (rw [if_pos (by omega), if_neg (by assumption), if_neg (by omega), if_neg (by omega), if_neg (by omega), if_neg (by omega), ← hr.1.2.2.2 _ (by omega) (by omega)] at hq; exact hq)
              | (rw [if_pos (by omega), if_neg (by assumption), if_pos (by omega), ← hr.1.1] at hq; exact hq)
              | (rw [if_pos (by omega), if_neg (by assumption), if_neg (by omega), if_pos (by omega), ← hr.1.2.1] at hq; exact hq)
              | (rw [if_pos (by omega), if_neg (by assumption), if_neg (by omega), if_neg (by omega), if_pos (by omega), ← hr.2.1] at hq; exact hq)
              | (rw [if_pos (by omega), if_neg (by assumption), if_neg (by omega), if_neg (by omega), if_neg (by omega), if_pos (by omega)] at hq
                 have e5 := hr.2.2
                 cases q : r.2.2.2
                 · rw [q] at hq e5
                   have e5 : h 64 5 = 0 := e5
                   first
                   | (exfalso; omega)
                   | exact hq
                 · rw [q] at hq e5
                   have e5 : h 64 5 = 1 := e5
                   first
                   | (exfalso; omega)
                   | exact hq)
            · intro c12
              constructor
              · intro c13
                first
                | (rw [if_neg (by omega)] at hq; exact hq)
                | (rw [if_pos (by omega), if_pos (by assumption), if_pos (by omega)] at hq; exact hq)
                | (rw [if_pos (by omega), if_pos (by assumption), if_neg (by omega)] at hq; exact hq)
                | (rw [if_pos (by omega), if_neg (by assumption), if_neg (by omega), if_neg (by omega), if_neg (by omega), if_neg (by omega), ← hr.1.2.2.2 _ (by omega) (by omega)] at hq; exact hq)
                | (rw [if_pos (by omega), if_neg (by assumption), if_pos (by omega), ← hr.1.1] at hq; exact hq)
                | (rw [if_pos (by omega), if_neg (by assumption), if_neg (by omega), if_pos (by omega), ← hr.1.2.1] at hq; exact hq)
                | (rw [if_pos (by omega), if_neg (by assumption), if_neg (by omega), if_neg (by omega), if_pos (by omega), ← hr.2.1] at hq; exact hq)
                | (rw [if_pos (by omega), if_neg (by assumption), if_neg (by omega), if_neg (by omega), if_neg (by omega), if_pos (by omega)] at hq
                   have e5 := hr.2.2
                   cases q : r.2.2.2
                   · rw [q] at hq e5
                     have e5 : h 64 5 = 0 := e5
                     first
                     | (exfalso; omega)
                     | exact hq
                   · rw [q] at hq e5
                     have e5 : h 64 5 = 1 := e5
                     first
                     | (exfalso; omega)
                     | exact hq)
              · intro c13
                constructor
                · intro c14
                  first
                  | (rw [if_neg (by omega)] at hq; exact hq)
                  | (rw [if_pos (by omega), if_pos (by assumption), if_pos (by omega)] at hq; exact hq)
                  | (rw [if_pos (by omega), if_pos (by assumption), if_neg (by omega)] at hq; exact hq)
                  | (rw [if_pos (by omega), if_neg (by assumption), if_neg (by omega), if_neg (by omega), if_neg (by omega), if_neg (by omega), ← hr.1.2.2.2 _ (by omega) (by omega)] at hq; exact hq)
                  | (rw [if_pos (by omega), if_neg (by assumption), if_pos (by omega), ← hr.1.1] at hq; exact hq)
                  | (rw [if_pos (by omega), if_neg (by assumption), if_neg (by omega), if_pos (by omega), ← hr.1.2.1] at hq; exact hq)
                  | (rw [if_pos (by omega), if_neg (by assumption), if_neg (by omega), if_neg (by omega), if_pos (by omega), ← hr.2.1] at hq; exact hq)
                  | (rw [if_pos (by omega), if_neg (by assumption), if_neg (by omega), if_neg (by omega), if_neg (by omega), if_pos (by omega)] at hq
                     have e5 := hr.2.2
                     cases q : r.2.2.2
                     · rw [q] at hq e5
                       have e5 : h 64 5 = 0 := e5
                       first
                       | (exfalso; omega)
                       | exact hq
                     · rw [q] at hq e5
                       have e5 : h 64 5 = 1 := e5
                       first
                       | (exfalso; omega)
                       | exact hq)
                · intro c14
                  first
                  | (rw [if_neg (by omega)] at hq; exact hq)
                  | (rw [if_pos (by omega), if_pos (by assumption), if_pos (by omega)] at hq; exact hq)
                  | (rw [if_pos (by omega), if_pos (by assumption), if_neg (by omega)] at hq; exact hq)
                  | (rw [if_pos (by omega), if_neg (by assumption), if_neg (by omega), if_neg (by omega), if_neg (by omega), if_neg (by omega), ← hr.1.2.2.2 _ (by omega) (by omega)] at hq; exact hq)
                  | (rw [if_pos (by omega), if_neg (by assumption), if_pos (by omega), ← hr.1.1] at hq; exact hq)
                  | (rw [if_pos (by omega), if_neg (by assumption), if_neg (by omega), if_pos (by omega), ← hr.1.2.1] at hq; exact hq)
                  | (rw [if_pos (by omega), if_neg (by assumption), if_neg (by omega), if_neg (by omega), if_pos (by omega), ← hr.2.1] at hq; exact hq)
                  | (rw [if_pos (by omega), if_neg (by assumption), if_neg (by omega), if_neg (by omega), if_neg (by omega), if_pos (by omega)] at hq
                     have e5 := hr.2.2
                     cases q : r.2.2.2
                     · rw [q] at hq e5
                       have e5 : h 64 5 = 0 := e5
                       first
                       | (exfalso; omega)
                       | exact hq
                     · rw [q] at hq e5
                       have e5 : h 64 5 = 1 := e5
                       first
                       | (exfalso; omega)
                       | exact hq)
def zMu : Nat → Int → Bool := fun r k => Nat.beq r 99 || Nat.beq r 100 || Nat.beq r 101 || (Nat.beq r 81 && (decide (31 ≤ k) && decide (k ≤ 36)))
theorem zMu_n {r : Nat} {k : Int} (h1 : r ≠ 99) (h2 : r ≠ 100) (h3 : r ≠ 101) (h4 : r ≠ 81) : zMu r k = false := by
  unfold zMu
  rw [zbeq_ne h1, zbeq_ne h2, zbeq_ne h3, zbeq_ne h4]
  rfl
theorem zMu_f {h h2 : zM} (hF : zF zMf h h2) : zF zMu h h2 := hF.mono (fun r j hf => by
  unfold zMu at hf
  unfold zMf
  simp only [Bool.or_eq_false_iff, Bool.and_eq_false_iff, decide_eq_false_iff_not] at hf ⊢
  refine ⟨hf.1.1.1, ?_⟩
  rcases hf.2 with q | q
  · exact Or.inl q
  · right
    omega)
theorem zMu_l {h h2 : zM} (hF : zF (fun r k => Nat.beq r 100 || (Nat.beq r 81 && decide (k = 36))) h h2) : zF zMu h h2 := hF.mono (fun r j hf => by
  unfold zMu at hf
  simp only [Bool.or_eq_false_iff, Bool.and_eq_false_iff, decide_eq_false_iff_not] at hf ⊢
  refine ⟨hf.1.1.2, ?_⟩
  rcases hf.2 with q | q
  · exact Or.inl q
  · right
    omega)
theorem zMu_101 {h h2 : zM} (hF : zF (fun r _ => Nat.beq r 101) h h2) : zF zMu h h2 := hF.mono (fun r j hf => by
  unfold zMu at hf
  simp only [Bool.or_eq_false_iff] at hf
  exact hf.1.2)
theorem zMx.U {h h2 : zM} {G : zG} (hm : zMx h G) (hF : zF zMu h h2) : zMx h2 G := by
  refine ⟨(hF _ _ rfl).trans hm.1, hm.2.fr (fun k hk => ?_) (fun r k hr => hF _ _ (zMu_n (by omega) (by omega) (by omega) (by omega)))⟩
  rcases hk with rfl | rfl | rfl <;> exact hF _ _ rfl
theorem zPm.U {h h2 : zM} {G : zG} {o : Int} (hp : zPm h o G) (hF : zF zMu h h2) : zPm h2 o G := hp.fr (fun _ => hF _ _ rfl)
theorem zPm.gb {h : zM} {G : zG} (hp : zPm h 0 G) (hw : zWf G) : ∀ v, 0 ≤ v → v < 6 → 0 ≤ h 82 (168 + v) ∧ h 82 (168 + v) ≤ 100 := by
  intro v h0 h6
  rw [hp.g h0 h6 rfl]
  have := hw.2.2.2.2.1 v h0 h6
  omega
theorem zsg_m {G : zG} {h : zM} (hp : zPm h 0 G) {f : Int → Int} (hf : ∀ v, 0 ≤ v → v < 6 → h 101 v = f v) {v : Int} (h0 : 0 ≤ v) (h6 : v < 6) : zsg G f v = if 0 < h 82 (168 + v) then h 82 (168 + v) - 1 else h 101 v := by
  rw [hp.g h0 h6 rfl, hf v h0 h6]
  unfold zsg
  split
  · rw [if_neg (by omega)]
  · rw [if_pos (by omega)]
    omega
theorem s_111o {h : zM} {G : zG} (hp : zPm h 0 G) (hw : zWf G) {f : Int → Int} (hf : ∀ v, 0 ≤ v → v < 6 → h 101 v = f v) (hfb : zVb f) {Q : zQ} (hq : ∀ h2, zF zMf h h2 → zMd h2 (zro G f) → Q none h2) : zR 111 [.inr (.inr 81)] h Q :=
  s_111 (hp.v hw) hw.w (hp.gb hw) (fun _ h0 h6 => zsg_m hp hf h0 h6) (zsg_b hw hfb) hq
theorem s_112l {h : zM} {G : zG} (hp : zPm h 0 G) (hw : zWf G) (hm : zFm h G) (hn : 0 < (zPW G).1) {f : Int → Int} (hf : ∀ v, 0 ≤ v → v < 6 → h 101 v = f v) (hfb : zVb f) {Q : zQ} (hq : ∀ h2, zF zMf h h2 → zMd h2 (zrl G f) → Q none h2) : zR 112 [.inr (.inr 81)] h Q := by
  refine s_112 hm.2.2.2.1 (zPW_w hw) hn (hp.gb hw) (g := zsg G f) (fun _ h0 h6 => zsg_m hp hf h0 h6) (fun v h0 h6 => ?_) (zsu_b hw hfb) hq
  rw [hm.1]
  unfold zsu
  by_cases q : zx_and (zx_shr (zUG G : Int) v) 1 = 0
  · rw [if_pos q, if_pos ((zbitu hw h0 h6).mp q)]
  · rw [if_neg q, if_neg (fun z => q ((zbitu hw h0 h6).mpr z))]
set_option maxHeartbeats 4000000 in
set_option maxRecDepth 100000 in
/-- M.run -/
theorem s_115 {h : zM} {G : zG} (hp : zPm h 0 G) (hw : zWf G) {f : Int → Int} (hf : ∀ v, 0 ≤ v → v < 6 → h 98 v = f v) (hfb : zVb f) {Q : zQ} (hq : ∀ h2, zF zMu h h2 → h2 81 36 = 1 → zMl h2 (zro G f) → Q (some (.inl (if (zro G f).2.2.2 = true then ((zro G f).1.2.2.2 : Int) else -2))) h2) : zR 115 [.inr (.inr 81)] h Q := by
  refine zx_met0 zk_115 (Or.inr ⟨_, _, rfl, rfl⟩) (Nat.le_of_ble_eq_true rfl) 1000 (fun hok hM => ?_)
  refine s_114 (fun h1 hF1 e1 => ?_)
  refine s_111o (hp.U (zMu_101 hF1)) hw (fun v h0 h6 => (e1 v h0 h6).trans (hf v h0 h6)) hfb (fun h2 hF2 hr => ?_)
  refine s_113 hr (fun h3 hF3 e3 hl => ?_)
  exact hq _ (((zMu_101 hF1).tr (zMu_f hF2)).tr (zMu_l hF3)) e3 hl
def zMv : Nat → Int → Bool := fun r k => zMg r k || zMu r k
theorem zMv_g {h h2 : zM} (hF : zF zMg h h2) : zF zMv h h2 := hF.mono (fun r j hf => (Bool.or_eq_false_iff.mp hf).1)
theorem zMv_u {h h2 : zM} (hF : zF zMu h h2) : zF zMv h h2 := hF.mono (fun r j hf => (Bool.or_eq_false_iff.mp hf).2)
set_option maxHeartbeats 4000000 in
set_option maxRecDepth 100000 in
/-- M.runLeft -/
theorem s_116 {h : zM} {G : zG} (hp : zPm h 0 G) (hw : zWf G) (hm : zMp h G) {f : Int → Int} (hf : ∀ v, 0 ≤ v → v < 6 → h 98 v = f v) (hfb : zVb f) {Q : zQ} (h0 : (zPW G).1 = 0 → ∀ h2, zF zMg h h2 → zMp h2 G → Q (some (.inl (-4))) h2) (h1 : 0 < (zPW G).1 → ∀ h2, zF zMv h h2 → zMp h2 G → h2 81 36 = 1 → zMl h2 (zrl G f) → Q (some (.inl (if (zrl G f).2.2.2 = true then ((zrl G f).1.2.2.2 : Int) else -2))) h2) : zR 116 [.inr (.inr 81)] h Q := by
  have hq := h1
  refine zx_met0 zk_116 (Or.inr ⟨_, _, rfl, rfl⟩) (Nat.le_of_ble_eq_true rfl) 1000 (fun hok hM => ?_)
  refine s_81p hp hw hm (fun h1 hF1 hx => ?_)
  have f1 := hx.2
  have n40 := (zPW_w hw).1
  have e15 := f1.2.2.2.1.1
  have hp1 : zPm h1 0 G := hp.fr (fun _ => hF1 _ _ rfl)
  have hn1 := hp1.n
  constructor
  · intro c1
    first
    | (exact h0 (by omega) _ (zMg_n hF1) hx.p)
    | (exact hq (by omega) _ ((zMv_g (zMg_n hF1)).tr (zMv_u hFu)) (hx.U hFu).p e4 hl)
  · intro c1
    refine s_114 (fun h2 hF2 e2 => ?_)
    refine s_112l (hp1.U (zMu_101 hF2)) hw (hx.U (zMu_101 hF2)).2 (by omega) (fun v h0 h6 => ((e2 v h0 h6).trans (hF1 _ _ rfl)).trans (hf v h0 h6)) hfb (fun h3 hF3 hr => ?_)
    refine s_113 hr (fun h4 hF4 e4 hl => ?_)
    have hFu := ((zMu_101 hF2).tr (zMu_f hF3)).tr (zMu_l hF4)
    first
    | (exact h0 (by omega) _ (zMg_n hF1) hx.p)
    | (exact hq (by omega) _ ((zMv_g (zMg_n hF1)).tr (zMv_u hFu)) (hx.U hFu).p e4 hl)
set_option maxHeartbeats 4000000 in
set_option maxRecDepth 100000 in
/-- M.told -/
theorem s_117 {h : zM} {r : zRr} {w : Int} (hr : ¬ h 81 36 = 0 → zMl h r) {Q : zQ} (hq : Q (some (.inl (zaT (h 81 36) r w))) h) : zR 117 [.inr (.inr 81), .inl w] h Q := by
  unfold zaT at hq
  refine zx_met0 zk_117 (Or.inr ⟨_, _, rfl, rfl⟩) (Nat.le_of_ble_eq_true rfl) 1000 (fun hok hM => ?_)
  refine s_50 (fun a1 => ?_) (fun a1 => ?_)
  · refine And.intro (fun c => absurd c (by decide)) (fun _ => ?_)
    constructor
    · intro c1
      constructor
      · intro c2
        first
        | (rw [if_neg (by omega)] at hq; exact hq)
        | (rw [if_pos (by omega), if_pos (by assumption), if_pos (by omega)] at hq; exact hq)
        | (rw [if_pos (by omega), if_pos (by assumption), if_neg (by omega)] at hq; exact hq)
        | (rw [if_pos (by omega), if_neg (by assumption), if_neg (by omega), if_neg (by omega), if_neg (by omega), if_neg (by omega), ← hr.2.2.2.2 _ (by omega) (by omega), show 4 + (w - 10) = w - 6 by omega] at hq; exact hq)
        | (rw [if_pos (by omega), if_neg (by assumption)] at hq
           rcases (show w = 0 ∨ w = 1 ∨ w = 2 ∨ w = 3 by omega) with rfl | rfl | rfl | rfl
           · rw [if_pos rfl, ← hr.1] at hq; exact hq
           · rw [if_neg (by omega), if_pos rfl, ← hr.2.1] at hq; exact hq
           · rw [if_neg (by omega), if_neg (by omega), if_pos rfl, ← hr.2.2.1] at hq; exact hq
           · rw [if_neg (by omega), if_neg (by omega), if_neg (by omega), if_pos rfl, ← hr.2.2.2.1] at hq; exact hq)
      · intro c2
        first
        | (rw [if_neg (by omega)] at hq; exact hq)
        | (rw [if_pos (by omega), if_pos (by assumption), if_pos (by omega)] at hq; exact hq)
        | (rw [if_pos (by omega), if_pos (by assumption), if_neg (by omega)] at hq; exact hq)
        | (rw [if_pos (by omega), if_neg (by assumption), if_neg (by omega), if_neg (by omega), if_neg (by omega), if_neg (by omega), ← hr.2.2.2.2 _ (by omega) (by omega), show 4 + (w - 10) = w - 6 by omega] at hq; exact hq)
        | (rw [if_pos (by omega), if_neg (by assumption)] at hq
           rcases (show w = 0 ∨ w = 1 ∨ w = 2 ∨ w = 3 by omega) with rfl | rfl | rfl | rfl
           · rw [if_pos rfl, ← hr.1] at hq; exact hq
           · rw [if_neg (by omega), if_pos rfl, ← hr.2.1] at hq; exact hq
           · rw [if_neg (by omega), if_neg (by omega), if_pos rfl, ← hr.2.2.1] at hq; exact hq
           · rw [if_neg (by omega), if_neg (by omega), if_neg (by omega), if_pos rfl, ← hr.2.2.2.1] at hq; exact hq)
    · intro c1
      have hr := hr (by assumption)
      constructor
      · intro c3
        refine And.intro (by show 0 ≤ _ ∧ _ < (10 : Int); omega) ?_
        first
        | (rw [if_neg (by omega)] at hq; exact hq)
        | (rw [if_pos (by omega), if_pos (by assumption), if_pos (by omega)] at hq; exact hq)
        | (rw [if_pos (by omega), if_pos (by assumption), if_neg (by omega)] at hq; exact hq)
        | (rw [if_pos (by omega), if_neg (by assumption), if_neg (by omega), if_neg (by omega), if_neg (by omega), if_neg (by omega), ← hr.2.2.2.2 _ (by omega) (by omega), show 4 + (w - 10) = w - 6 by omega] at hq; exact hq)
        | (rw [if_pos (by omega), if_neg (by assumption)] at hq
           rcases (show w = 0 ∨ w = 1 ∨ w = 2 ∨ w = 3 by omega) with rfl | rfl | rfl | rfl
           · rw [if_pos rfl, ← hr.1] at hq; exact hq
           · rw [if_neg (by omega), if_pos rfl, ← hr.2.1] at hq; exact hq
           · rw [if_neg (by omega), if_neg (by omega), if_pos rfl, ← hr.2.2.1] at hq; exact hq
           · rw [if_neg (by omega), if_neg (by omega), if_neg (by omega), if_pos rfl, ← hr.2.2.2.1] at hq; exact hq)
      · intro c3
        refine And.intro (by omega) ?_
        refine And.intro (by show 0 ≤ _ ∧ _ < (10 : Int); omega) ?_
        first
        | (rw [if_neg (by omega)] at hq; exact hq)
        | (rw [if_pos (by omega), if_pos (by assumption), if_pos (by omega)] at hq; exact hq)
        | (rw [if_pos (by omega), if_pos (by assumption), if_neg (by omega)] at hq; exact hq)
        | (rw [if_pos (by omega), if_neg (by assumption), if_neg (by omega), if_neg (by omega), if_neg (by omega), if_neg (by omega), ← hr.2.2.2.2 _ (by omega) (by omega), show 4 + (w - 10) = w - 6 by omega] at hq; exact hq)
        | (rw [if_pos (by omega), if_neg (by assumption)] at hq
           rcases (show w = 0 ∨ w = 1 ∨ w = 2 ∨ w = 3 by omega) with rfl | rfl | rfl | rfl
           · rw [if_pos rfl, ← hr.1] at hq; exact hq
           · rw [if_neg (by omega), if_pos rfl, ← hr.2.1] at hq; exact hq
           · rw [if_neg (by omega), if_neg (by omega), if_pos rfl, ← hr.2.2.1] at hq; exact hq
           · rw [if_neg (by omega), if_neg (by omega), if_neg (by omega), if_pos rfl, ← hr.2.2.2.1] at hq; exact hq)
  · refine And.intro (fun _ => ?_) (fun c => absurd (by decide) c)
    refine s_50 (fun a2 => ?_) (fun a2 => ?_)
    · refine And.intro (fun c => absurd c (by decide)) (fun _ => ?_)
      constructor
      · intro c4
        constructor
        · intro c5
          first
          | (rw [if_neg (by omega)] at hq; exact hq)
          | (rw [if_pos (by omega), if_pos (by assumption), if_pos (by omega)] at hq; exact hq)
          | (rw [if_pos (by omega), if_pos (by assumption), if_neg (by omega)] at hq; exact hq)
          | (rw [if_pos (by omega), if_neg (by assumption), if_neg (by omega), if_neg (by omega), if_neg (by omega), if_neg (by omega), ← hr.2.2.2.2 _ (by omega) (by omega), show 4 + (w - 10) = w - 6 by omega] at hq; exact hq)
          | (rw [if_pos (by omega), if_neg (by assumption)] at hq
             rcases (show w = 0 ∨ w = 1 ∨ w = 2 ∨ w = 3 by omega) with rfl | rfl | rfl | rfl
             · rw [if_pos rfl, ← hr.1] at hq; exact hq
             · rw [if_neg (by omega), if_pos rfl, ← hr.2.1] at hq; exact hq
             · rw [if_neg (by omega), if_neg (by omega), if_pos rfl, ← hr.2.2.1] at hq; exact hq
             · rw [if_neg (by omega), if_neg (by omega), if_neg (by omega), if_pos rfl, ← hr.2.2.2.1] at hq; exact hq)
        · intro c5
          first
          | (rw [if_neg (by omega)] at hq; exact hq)
          | (rw [if_pos (by omega), if_pos (by assumption), if_pos (by omega)] at hq; exact hq)
          | (rw [if_pos (by omega), if_pos (by assumption), if_neg (by omega)] at hq; exact hq)
          | (rw [if_pos (by omega), if_neg (by assumption), if_neg (by omega), if_neg (by omega), if_neg (by omega), if_neg (by omega), ← hr.2.2.2.2 _ (by omega) (by omega), show 4 + (w - 10) = w - 6 by omega] at hq; exact hq)
          | (rw [if_pos (by omega), if_neg (by assumption)] at hq
             rcases (show w = 0 ∨ w = 1 ∨ w = 2 ∨ w = 3 by omega) with rfl | rfl | rfl | rfl
             · rw [if_pos rfl, ← hr.1] at hq; exact hq
             · rw [if_neg (by omega), if_pos rfl, ← hr.2.1] at hq; exact hq
             · rw [if_neg (by omega), if_neg (by omega), if_pos rfl, ← hr.2.2.1] at hq; exact hq
             · rw [if_neg (by omega), if_neg (by omega), if_neg (by omega), if_pos rfl, ← hr.2.2.2.1] at hq; exact hq)
      · intro c4
        have hr := hr (by assumption)
        constructor
        · intro c6
          refine And.intro (by show 0 ≤ _ ∧ _ < (10 : Int); omega) ?_
          first
          | (rw [if_neg (by omega)] at hq; exact hq)
          | (rw [if_pos (by omega), if_pos (by assumption), if_pos (by omega)] at hq; exact hq)
          | (rw [if_pos (by omega), if_pos (by assumption), if_neg (by omega)] at hq; exact hq)
          | (rw [if_pos (by omega), if_neg (by assumption), if_neg (by omega), if_neg (by omega), if_neg (by omega), if_neg (by omega), ← hr.2.2.2.2 _ (by omega) (by omega), show 4 + (w - 10) = w - 6 by omega] at hq; exact hq)
          | (rw [if_pos (by omega), if_neg (by assumption)] at hq
             rcases (show w = 0 ∨ w = 1 ∨ w = 2 ∨ w = 3 by omega) with rfl | rfl | rfl | rfl
             · rw [if_pos rfl, ← hr.1] at hq; exact hq
             · rw [if_neg (by omega), if_pos rfl, ← hr.2.1] at hq; exact hq
             · rw [if_neg (by omega), if_neg (by omega), if_pos rfl, ← hr.2.2.1] at hq; exact hq
             · rw [if_neg (by omega), if_neg (by omega), if_neg (by omega), if_pos rfl, ← hr.2.2.2.1] at hq; exact hq)
        · intro c6
          refine And.intro (by omega) ?_
          refine And.intro (by show 0 ≤ _ ∧ _ < (10 : Int); omega) ?_
          first
          | (rw [if_neg (by omega)] at hq; exact hq)
          | (rw [if_pos (by omega), if_pos (by assumption), if_pos (by omega)] at hq; exact hq)
          | (rw [if_pos (by omega), if_pos (by assumption), if_neg (by omega)] at hq; exact hq)
          | (rw [if_pos (by omega), if_neg (by assumption), if_neg (by omega), if_neg (by omega), if_neg (by omega), if_neg (by omega), ← hr.2.2.2.2 _ (by omega) (by omega), show 4 + (w - 10) = w - 6 by omega] at hq; exact hq)
          | (rw [if_pos (by omega), if_neg (by assumption)] at hq
             rcases (show w = 0 ∨ w = 1 ∨ w = 2 ∨ w = 3 by omega) with rfl | rfl | rfl | rfl
             · rw [if_pos rfl, ← hr.1] at hq; exact hq
             · rw [if_neg (by omega), if_pos rfl, ← hr.2.1] at hq; exact hq
             · rw [if_neg (by omega), if_neg (by omega), if_pos rfl, ← hr.2.2.1] at hq; exact hq
             · rw [if_neg (by omega), if_neg (by omega), if_neg (by omega), if_pos rfl, ← hr.2.2.2.1] at hq; exact hq)
    · refine And.intro (fun _ => ?_) (fun c => absurd (by decide) c)
      first
      | (rw [if_neg (by omega)] at hq; exact hq)
      | (rw [if_pos (by omega), if_pos (by assumption), if_pos (by omega)] at hq; exact hq)
      | (rw [if_pos (by omega), if_pos (by assumption), if_neg (by omega)] at hq; exact hq)
      | (rw [if_pos (by omega), if_neg (by assumption), if_neg (by omega), if_neg (by omega), if_neg (by omega), if_neg (by omega), ← hr.2.2.2.2 _ (by omega) (by omega), show 4 + (w - 10) = w - 6 by omega] at hq; exact hq)
      | (rw [if_pos (by omega), if_neg (by assumption)] at hq
         rcases (show w = 0 ∨ w = 1 ∨ w = 2 ∨ w = 3 by omega) with rfl | rfl | rfl | rfl
         · rw [if_pos rfl, ← hr.1] at hq; exact hq
         · rw [if_neg (by omega), if_pos rfl, ← hr.2.1] at hq; exact hq
         · rw [if_neg (by omega), if_neg (by omega), if_pos rfl, ← hr.2.2.1] at hq; exact hq
         · rw [if_neg (by omega), if_neg (by omega), if_neg (by omega), if_pos rfl, ← hr.2.2.2.1] at hq; exact hq)
