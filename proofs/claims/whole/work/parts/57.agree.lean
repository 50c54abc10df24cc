/-! agree() -/
def zsd (x : Int) : Int := zx_wr (zx_wr (x * 1103515245) + 12345)
def zsn (x : Int) (n : Nat) : Int := zit (fun _ y => zsd y) n x
def zdr (x : Int) : Int := zx_and (zx_shr x 16) 32767 % 12
def zdf (x : Int) : Int → Int := fun v => zdr (zsn x (v.toNat + 1))
theorem zk15 : ∀ i : Nat, i < 32 → (32767#32).getLsbD i = decide (i < 15) := by decide
theorem zdr_u (x : Int) : zx_and (zx_ushr x 16) 32767 = zx_and (zx_shr x 16) 32767 := by
  unfold zx_and zx_ushr zx_shr
  rw [Int32.ofInt_toInt, Int32.ofInt_toInt]
  refine congrArg Int32.toInt ?_
  generalize Int32.ofInt x = y
  refine Int32.toBitVec_inj.mp ?_
  show (y.toBitVec >>> 16) &&& 32767#32 = BitVec.sshiftRight y.toBitVec 16 &&& 32767#32
  generalize y.toBitVec = b
  apply BitVec.eq_of_getLsbD_eq
  intro i hi
  rw [BitVec.getLsbD_and, BitVec.getLsbD_and, zk15 i hi, BitVec.getLsbD_ushiftRight, BitVec.getLsbD_sshiftRight]
  by_cases h : i < 15
  · have a1 : ¬ 32 ≤ i := by omega
    have a2 : 16 + i < 32 := by omega
    simp [h, a1, a2]
  · simp [h]
theorem zand_b (y : Int) : 0 ≤ zx_and y 32767 ∧ zx_and y 32767 ≤ 32767 := by
  unfold zx_and
  generalize Int32.ofInt y = a
  show 0 ≤ (a.toBitVec &&& 32767#32).toInt ∧ (a.toBitVec &&& 32767#32).toInt ≤ 32767
  have h : (a.toBitVec &&& 32767#32).toNat ≤ 32767 := by
    rw [BitVec.toNat_and]
    exact Nat.and_le_right
  rw [BitVec.toInt_eq_toNat_of_lt (by omega)]
  omega
theorem zdf_b (x : Int) : zVb (zdf x) := by
  intro v h0 h6
  have := zand_b (zx_shr (zsn x (v.toNat + 1)) 16)
  unfold zdf zdr
  omega
theorem zsn_a (x : Int) (a : Nat) : ∀ b, zsn (zsn x a) b = zsn x (a + b)
  | 0 => rfl
  | b + 1 => by
    show zsd (zsn (zsn x a) b) = zsd (zsn x (a + b))
    rw [zsn_a x a b]
/-- both runs are alike in the end -/
def zag (u : Nat) (a b : zRr) : Prop := a.1.2.1 = b.1.2.1 ∧ a.2.2.2 = b.2.2.2 ∧ ∀ v, 0 ≤ v → v < 6 → Nat.testBit u v.toNat = true → a.1.1 v = b.1.1 v
noncomputable def zcp (u : Nat) (a b : zRr) (w : Int) : Int := if w = 1 then (if a.2.2.2 = true then 1 else 0) else if w = 2 then (a.1.2.2.2 : Int) - (b.1.2.2.2 : Int) else @ite Int (zag u a b) (Classical.propDecidable _) 1 0
theorem zcp_t {u : Nat} {a b : zRr} {w : Int} (h1 : ¬ w = 1) (h2 : ¬ w = 2) (h : zag u a b) : zcp u a b w = 1 := by
  unfold zcp
  rw [if_neg h1, if_neg h2, if_pos h]
theorem zcp_f {u : Nat} {a b : zRr} {w : Int} (h1 : ¬ w = 1) (h2 : ¬ w = 2) (h : ¬ zag u a b) : zcp u a b w = 0 := by
  unfold zcp
  rw [if_neg h1, if_neg h2, if_neg h]
noncomputable def zcg (G : zG) (f : Int → Int) (w : Int) : Int := zcp (zUG G) (zro G f) (zrl G f) w
theorem zro_b {G : zG} (hw : zWf G) {f : Int → Int} (hf : zVb f) : (zro G f).1.2.2.2 ≤ 7200 ∧ (zrl G f).1.2.2.2 ≤ 7200 := by
  have a := (zrn_o hw.w (zsg_b hw hf) 300).1.2.2
  have b := (zrn_o (zPW_w hw) (zsu_b hw hf) 300).1.2.2
  unfold zro zrl
  omega
theorem zcg_b {G : zG} (hw : zWf G) {f : Int → Int} (hf : zVb f) (w : Int) : -7200 ≤ zcg G f w ∧ zcg G f w ≤ 7200 := by
  have := zro_b hw hf
  unfold zcg zcp
  split
  · split <;> omega
  · split
    · omega
    · split <;> omega
/-- the sum over n runs -/
noncomputable def zas (G : zG) (w s : Int) (n : Nat) : Int := zit (fun t a => a + zcg G (zdf (zsn s (6 * t))) w) n 0
theorem zas_b {G : zG} (hw : zWf G) (w s : Int) : ∀ n : Nat, -7200 * (n : Int) ≤ zas G w s n ∧ zas G w s n ≤ 7200 * (n : Int)
  | 0 => by
    show -7200 * ((0 : Nat) : Int) ≤ (0 : Int) ∧ (0 : Int) ≤ 7200 * ((0 : Nat) : Int)
    omega
  | n + 1 => by
    have a := zas_b hw w s n
    have b := zcg_b hw (zdf_b (zsn s (6 * n))) w
    show -7200 * ((n + 1 : Nat) : Int) ≤ zas G w s n + _ ∧ zas G w s n + _ ≤ 7200 * ((n + 1 : Nat) : Int)
    omega
noncomputable def zaA (G : zG) (s n w : Int) : Int := if (1 ≤ n ∧ n ≤ 50) ∧ 0 ≤ w ∧ w ≤ 2 then (if (zPW G).1 = 0 then -4 else zas G w s n.toNat) else -1
set_option maxHeartbeats 4000000 in
set_option maxRecDepth 100000 in
/-- C.compareRuns -/
theorem s_31 {h : zM} {u : Nat} (hu : u < 64) (hd : h 53 1 = (u : Int)) {a b : zRr} (hra : zRd h 66 a) (hrb : zRd h 68 b) (hba : a.1.2.2.2 ≤ 7200) (hbb : b.1.2.2.2 ≤ 7200) {w : Int} {Q : zQ} (hq : Q (some (.inl (zcp u a b w))) h) : zR 31 [.inr (.inr 0), .inl w] h Q := by
  have a4 := hra.1.2.2.1
  have b4 := hrb.1.2.2.1
  have a5 := hra.2.2
  have b5 := hrb.2.2
  have a1 := hra.1.1
  have b1 := hrb.1.1
  have hab : h 66 5 = h 68 5 ↔ a.2.2.2 = b.2.2.2 := by
    rw [a5, b5]
    cases a.2.2.2 <;> cases b.2.2.2 <;> simp
  refine zx_met zk_31 (Or.inr ⟨_, _, rfl, rfl⟩) (Nat.le_of_ble_eq_true rfl) (fun _ => false) 1000 (fun m j L S h2 => j = 40 ∧ S = [] ∧ h2 = h ∧ ∃ k7 : Nat, L = [some (.inr (.inr 0)), some (.inl w), some (.inl (k7 : Int))] ∧ k7 ≤ 6 ∧ m = 6 - k7 ∧ ¬ w = 1 ∧ ¬ w = 2 ∧ h 66 1 = h 68 1 ∧ a.2.2.2 = b.2.2.2 ∧ ∀ v, 0 ≤ v → v < (k7 : Int) → Nat.testBit u v.toNat = true → a.1.1 v = b.1.1 v) (fun hok hM => ?_) (fun hok hM => ?_)
  · constructor
    · intro c1
      constructor
      · intro c2
        first
        | (unfold zcp at hq
           rw [if_pos (by assumption)] at hq
           cases q : a.2.2.2
           · rw [q] at hq a5
             have a5 : h 66 5 = 0 := a5
             first | (exfalso; omega) | exact hq
           · rw [q] at hq a5
             have a5 : h 66 5 = 1 := a5
             first | (exfalso; omega) | exact hq)
        | (unfold zcp at hq
           rw [if_neg (by assumption), if_pos (by assumption), ← a4, ← b4] at hq
           exact hq)
        | (rw [zcp_f (by assumption) (by assumption) (fun q => (show ¬ h 66 1 = h 68 1 by assumption) (by rw [a1, b1]; exact q.1))] at hq; exact hq)
        | (rw [zcp_f (by assumption) (by assumption) (fun q => (show ¬ h 66 5 = h 68 5 by assumption) (hab.mpr q.2.1))] at hq; exact hq)
        | (have ht : Nat.testBit u k7 = true := by
             cases q : Nat.testBit u k7
             · exact absurd (hz.mpr q) z1
             · rfl
           have ea : h2 67 (k7 : Int) = _ := ea
           have eb : h2 69 (k7 : Int) = _ := eb
           rw [zcp_f w1 w2 (fun q => by have := q.2.2 (k7 : Int) (by omega) (by omega) (by rw [Int.toNat_natCast]; exact ht); omega)] at hq; exact hq)
        | (have k6 : k7 = 6 := by omega
           subst k6
           rw [zcp_t w1 w2 ⟨by rw [← a1, ← b1]; exact e1, e5, hv⟩] at hq; exact hq)
      · intro c2
        first
        | (unfold zcp at hq
           rw [if_pos (by assumption)] at hq
           cases q : a.2.2.2
           · rw [q] at hq a5
             have a5 : h 66 5 = 0 := a5
             first | (exfalso; omega) | exact hq
           · rw [q] at hq a5
             have a5 : h 66 5 = 1 := a5
             first | (exfalso; omega) | exact hq)
        | (unfold zcp at hq
           rw [if_neg (by assumption), if_pos (by assumption), ← a4, ← b4] at hq
           exact hq)
        | (rw [zcp_f (by assumption) (by assumption) (fun q => (show ¬ h 66 1 = h 68 1 by assumption) (by rw [a1, b1]; exact q.1))] at hq; exact hq)
        | (rw [zcp_f (by assumption) (by assumption) (fun q => (show ¬ h 66 5 = h 68 5 by assumption) (hab.mpr q.2.1))] at hq; exact hq)
        | (have ht : Nat.testBit u k7 = true := by
             cases q : Nat.testBit u k7
             · exact absurd (hz.mpr q) z1
             · rfl
           have ea : h2 67 (k7 : Int) = _ := ea
           have eb : h2 69 (k7 : Int) = _ := eb
           rw [zcp_f w1 w2 (fun q => by have := q.2.2 (k7 : Int) (by omega) (by omega) (by rw [Int.toNat_natCast]; exact ht); omega)] at hq; exact hq)
        | (have k6 : k7 = 6 := by omega
           subst k6
           rw [zcp_t w1 w2 ⟨by rw [← a1, ← b1]; exact e1, e5, hv⟩] at hq; exact hq)
    · intro c1
      constructor
      · intro c3
        refine And.intro (by omega) ?_
        first
        | (unfold zcp at hq
           rw [if_pos (by assumption)] at hq
           cases q : a.2.2.2
           · rw [q] at hq a5
             have a5 : h 66 5 = 0 := a5
             first | (exfalso; omega) | exact hq
           · rw [q] at hq a5
             have a5 : h 66 5 = 1 := a5
             first | (exfalso; omega) | exact hq)
        | (unfold zcp at hq
           rw [if_neg (by assumption), if_pos (by assumption), ← a4, ← b4] at hq
           exact hq)
        | (rw [zcp_f (by assumption) (by assumption) (fun q => (show ¬ h 66 1 = h 68 1 by assumption) (by rw [a1, b1]; exact q.1))] at hq; exact hq)
        | (rw [zcp_f (by assumption) (by assumption) (fun q => (show ¬ h 66 5 = h 68 5 by assumption) (hab.mpr q.2.1))] at hq; exact hq)
        | (have ht : Nat.testBit u k7 = true := by
             cases q : Nat.testBit u k7
             · exact absurd (hz.mpr q) z1
             · rfl
           have ea : h2 67 (k7 : Int) = _ := ea
           have eb : h2 69 (k7 : Int) = _ := eb
           rw [zcp_f w1 w2 (fun q => by have := q.2.2 (k7 : Int) (by omega) (by omega) (by rw [Int.toNat_natCast]; exact ht); omega)] at hq; exact hq)
        | (have k6 : k7 = 6 := by omega
           subst k6
           rw [zcp_t w1 w2 ⟨by rw [← a1, ← b1]; exact e1, e5, hv⟩] at hq; exact hq)
      · intro c3
        constructor
        · intro c4
          constructor
          · intro c5
            exact ⟨_, rfl, rfl, rfl, 0, rfl, by omega, rfl, by assumption, by assumption, by assumption, hab.mp (by assumption), fun v h0 h1 => by omega⟩
          · intro c5
            first
            | (unfold zcp at hq
               rw [if_pos (by assumption)] at hq
               cases q : a.2.2.2
               · rw [q] at hq a5
                 have a5 : h 66 5 = 0 := a5
                 first | (exfalso; omega) | exact hq
               · rw [q] at hq a5
                 have a5 : h 66 5 = 1 := a5
                 first | (exfalso; omega) | exact hq)
            | (unfold zcp at hq
               rw [if_neg (by assumption), if_pos (by assumption), ← a4, ← b4] at hq
               exact hq)
            | (rw [zcp_f (by assumption) (by assumption) (fun q => (show ¬ h 66 1 = h 68 1 by assumption) (by rw [a1, b1]; exact q.1))] at hq; exact hq)
            | (rw [zcp_f (by assumption) (by assumption) (fun q => (show ¬ h 66 5 = h 68 5 by assumption) (hab.mpr q.2.1))] at hq; exact hq)
            | (have ht : Nat.testBit u k7 = true := by
                 cases q : Nat.testBit u k7
                 · exact absurd (hz.mpr q) z1
                 · rfl
               have ea : h2 67 (k7 : Int) = _ := ea
               have eb : h2 69 (k7 : Int) = _ := eb
               rw [zcp_f w1 w2 (fun q => by have := q.2.2 (k7 : Int) (by omega) (by omega) (by rw [Int.toNat_natCast]; exact ht); omega)] at hq; exact hq)
            | (have k6 : k7 = 6 := by omega
               subst k6
               rw [zcp_t w1 w2 ⟨by rw [← a1, ← b1]; exact e1, e5, hv⟩] at hq; exact hq)
        · intro c4
          first
          | (unfold zcp at hq
             rw [if_pos (by assumption)] at hq
             cases q : a.2.2.2
             · rw [q] at hq a5
               have a5 : h 66 5 = 0 := a5
               first | (exfalso; omega) | exact hq
             · rw [q] at hq a5
               have a5 : h 66 5 = 1 := a5
               first | (exfalso; omega) | exact hq)
          | (unfold zcp at hq
             rw [if_neg (by assumption), if_pos (by assumption), ← a4, ← b4] at hq
             exact hq)
          | (rw [zcp_f (by assumption) (by assumption) (fun q => (show ¬ h 66 1 = h 68 1 by assumption) (by rw [a1, b1]; exact q.1))] at hq; exact hq)
          | (rw [zcp_f (by assumption) (by assumption) (fun q => (show ¬ h 66 5 = h 68 5 by assumption) (hab.mpr q.2.1))] at hq; exact hq)
          | (have ht : Nat.testBit u k7 = true := by
               cases q : Nat.testBit u k7
               · exact absurd (hz.mpr q) z1
               · rfl
             have ea : h2 67 (k7 : Int) = _ := ea
             have eb : h2 69 (k7 : Int) = _ := eb
             rw [zcp_f w1 w2 (fun q => by have := q.2.2 (k7 : Int) (by omega) (by omega) (by rw [Int.toNat_natCast]; exact ht); omega)] at hq; exact hq)
          | (have k6 : k7 = 6 := by omega
             subst k6
             rw [zcp_t w1 w2 ⟨by rw [← a1, ← b1]; exact e1, e5, hv⟩] at hq; exact hq)
  · rintro m j L S h2 hM2 ⟨rfl, rfl, rfl, k7, rfl, hk, hm, w1, w2, e1, e5, hv⟩
    constructor
    · intro c6
      have hz := zB_bit u hu k7 (by omega)
      rw [← hd] at hz
      have ea := hra.1.2.2.2 (k7 : Int) (by omega) (by omega)
      have eb := hrb.1.2.2.2 (k7 : Int) (by omega) (by omega)
      refine s_43 (fun z1 => ?_) (fun z1 => ?_)
      · refine And.intro (fun c => absurd c (by decide)) (fun _ => ?_)
        refine And.intro (by show 0 ≤ _ ∧ _ < (6 : Int); omega) ?_
        refine And.intro (by show 0 ≤ _ ∧ _ < (6 : Int); omega) ?_
        constructor
        · intro c7
          refine And.intro (by omega) ?_
          refine ⟨6 - (k7 + 1), by omega, rfl, rfl, rfl, k7 + 1, rfl, by omega, rfl, w1, w2, e1, e5, fun v h0 h1 ht => ?_⟩
          by_cases e : v = (k7 : Int)
          · subst e
            rw [Int.toNat_natCast] at ht
            first
            | (rw [hz.mp z1] at ht; cases ht)
            | (have ea : h2 67 (k7 : Int) = _ := ea
               have eb : h2 69 (k7 : Int) = _ := eb
               omega)
          · exact hv v h0 (by omega) ht
        · intro c7
          first
          | (unfold zcp at hq
             rw [if_pos (by assumption)] at hq
             cases q : a.2.2.2
             · rw [q] at hq a5
               have a5 : h 66 5 = 0 := a5
               first | (exfalso; omega) | exact hq
             · rw [q] at hq a5
               have a5 : h 66 5 = 1 := a5
               first | (exfalso; omega) | exact hq)
          | (unfold zcp at hq
             rw [if_neg (by assumption), if_pos (by assumption), ← a4, ← b4] at hq
             exact hq)
          | (rw [zcp_f (by assumption) (by assumption) (fun q => (show ¬ h 66 1 = h 68 1 by assumption) (by rw [a1, b1]; exact q.1))] at hq; exact hq)
          | (rw [zcp_f (by assumption) (by assumption) (fun q => (show ¬ h 66 5 = h 68 5 by assumption) (hab.mpr q.2.1))] at hq; exact hq)
          | (have ht : Nat.testBit u k7 = true := by
               cases q : Nat.testBit u k7
               · exact absurd (hz.mpr q) z1
               · rfl
             have ea : h2 67 (k7 : Int) = _ := ea
             have eb : h2 69 (k7 : Int) = _ := eb
             rw [zcp_f w1 w2 (fun q => by have := q.2.2 (k7 : Int) (by omega) (by omega) (by rw [Int.toNat_natCast]; exact ht); omega)] at hq; exact hq)
          | (have k6 : k7 = 6 := by omega
             subst k6
             rw [zcp_t w1 w2 ⟨by rw [← a1, ← b1]; exact e1, e5, hv⟩] at hq; exact hq)
      · refine And.intro (fun _ => ?_) (fun c => absurd (by decide) c)
        refine And.intro (by omega) ?_
        refine ⟨6 - (k7 + 1), by omega, rfl, rfl, rfl, k7 + 1, rfl, by omega, rfl, w1, w2, e1, e5, fun v h0 h1 ht => ?_⟩
        by_cases e : v = (k7 : Int)
        · subst e
          rw [Int.toNat_natCast] at ht
          first
          | (rw [hz.mp z1] at ht; cases ht)
          | (have ea : h2 67 (k7 : Int) = _ := ea
             have eb : h2 69 (k7 : Int) = _ := eb
             omega)
        · exact hv v h0 (by omega) ht
    · intro c6
      first
      | (unfold zcp at hq
         rw [if_pos (by assumption)] at hq
         cases q : a.2.2.2
         · rw [q] at hq a5
           have a5 : h 66 5 = 0 := a5
           first | (exfalso; omega) | exact hq
         · rw [q] at hq a5
           have a5 : h 66 5 = 1 := a5
           first | (exfalso; omega) | exact hq)
      | (unfold zcp at hq
         rw [if_neg (by assumption), if_pos (by assumption), ← a4, ← b4] at hq
         exact hq)
      | (rw [zcp_f (by assumption) (by assumption) (fun q => (show ¬ h 66 1 = h 68 1 by assumption) (by rw [a1, b1]; exact q.1))] at hq; exact hq)
      | (rw [zcp_f (by assumption) (by assumption) (fun q => (show ¬ h 66 5 = h 68 5 by assumption) (hab.mpr q.2.1))] at hq; exact hq)
      | (have ht : Nat.testBit u k7 = true := by
           cases q : Nat.testBit u k7
           · exact absurd (hz.mpr q) z1
           · rfl
         have ea : h2 67 (k7 : Int) = _ := ea
         have eb : h2 69 (k7 : Int) = _ := eb
         rw [zcp_f w1 w2 (fun q => by have := q.2.2 (k7 : Int) (by omega) (by omega) (by rw [Int.toNat_natCast]; exact ht); omega)] at hq; exact hq)
      | (have k6 : k7 = 6 := by omega
         subst k6
         rw [zcp_t w1 w2 ⟨by rw [← a1, ← b1]; exact e1, e5, hv⟩] at hq; exact hq)
def zCa : Nat → Int → Bool := fun r k => zCf r k || (Nat.ble 66 r && Nat.ble r 69) || Nat.beq r 71
theorem zCa_c {h h2 : zM} (hF : zF zCf h h2) : zF zCa h h2 := hF.mono (fun r j hf => by
  unfold zCa at hf
  simp only [Bool.or_eq_false_iff] at hf
  exact hf.1.1)
theorem zCa_r {a : Nat} (ha : a = 66 ∨ a = 68) {h h2 : zM} (hF : zF (zRg a) h h2) : zF zCa h h2 := hF.mono (fun r j hf => by
  unfold zCa at hf
  simp only [Bool.or_eq_false_iff] at hf
  have hf := hf.1.2
  unfold zRg
  have key : ∀ q : Nat, 66 ≤ q → q ≤ 69 → Nat.beq r q = false := by
    intro q q1 q2
    refine zbeq_ne (fun e => ?_)
    subst e
    rw [Nat.ble_eq.mpr q1, Nat.ble_eq.mpr q2] at hf
    cases hf
  rw [key a (by omega) (by omega), key (a + 1) (by omega) (by omega)]
  rfl)
def zAr : Nat → Int → Bool := fun r _ => Nat.ble 66 r && Nat.ble r 71 && !Nat.beq r 70
theorem zAr_n {r : Nat} {k : Int} (h : r < 66 ∨ r = 70 ∨ 71 < r) : zAr r k = false := by
  unfold zAr
  cases e1 : Nat.ble 66 r
  · rfl
  · cases e2 : Nat.ble r 71
    · rfl
    · have := Nat.ble_eq.mp e1
      have := Nat.ble_eq.mp e2
      have : r = 70 := by omega
      subst this
      rfl
theorem zAr_i {r : Nat} {k : Int} (h1 : 66 ≤ r) (h2 : r ≤ 71) (h3 : r ≠ 70) : zAr r k = true := by
  unfold zAr
  rw [Nat.ble_eq.mpr h1, Nat.ble_eq.mpr h2, zbeq_ne h3]
  rfl
theorem zAr_r {a : Nat} (ha : a = 66 ∨ a = 68) {h h2 : zM} (hF : zF (zRg a) h h2) : zF zAr h h2 := hF.mono (fun r j hf => by
  unfold zRg
  by_cases q : r = a ∨ r = a + 1
  · rw [zAr_i (by omega) (by omega) (by omega)] at hf
    cases hf
  · rw [zbeq_ne (show r ≠ a + 1 by omega), zbeq_ne (show r ≠ a by omega)]
    rfl)
theorem zCa_A {h h2 : zM} (hF : zF zAr h h2) : zF zCa h h2 := hF.mono (fun r j hf => by
  by_cases q : r < 66 ∨ r = 70 ∨ 71 < r
  · exact zAr_n q
  · exfalso
    unfold zCa at hf
    simp only [Bool.or_eq_false_iff] at hf
    by_cases q2 : r = 71
    · subst q2
      cases hf.2
    · have hf := hf.1.2
      rw [Nat.ble_eq.mpr (show 66 ≤ r by omega), Nat.ble_eq.mpr (show r ≤ 69 by omega)] at hf
      cases hf)
set_option maxHeartbeats 4000000 in
set_option maxRecDepth 100000 in
/-- C.agree -/
theorem s_18 {h : zM} {G : zG} (hp : zPc h 12 44 G) (hw : zWf G) (hc : zCp h G) {s n w : Int} {Q : zQ} (hq : ∀ h2, zF zCa h h2 → zCp h2 G → Q (some (.inl (zaA G s n w))) h2) : zR 18 [.inr (.inr 0), .inl s, .inl n, .inl w] h Q := by
  refine zx_met zk_18 (Or.inr ⟨_, _, rfl, rfl⟩) (Nat.le_of_ble_eq_true rfl) (fun _ => false) 1000 (fun m j L S h2 => (j = 28 ∧ S = [] ∧ ∃ (t7 : Nat) (q7 : Option zV), L = [some (.inr (.inr 0)), some (.inl s), some (.inl n), some (.inl w), some (.inl (zas G w s t7)), some (.inl (zsn s (6 * t7))), some (.inl (t7 : Int)), q7] ∧ (t7 : Int) ≤ n ∧ n ≤ 50 ∧ 0 ≤ w ∧ w ≤ 2 ∧ 0 < (zPW G).1 ∧ 1 ≤ n ∧ m = (50 - t7) * 10 + 8 ∧ zF zCa h h2 ∧ zCx h2 G ∧ zPc h2 12 44 G) ∨
    (j = 33 ∧ S = [] ∧ ∃ (t7 v7 : Nat), L = [some (.inr (.inr 0)), some (.inl s), some (.inl n), some (.inl w), some (.inl (zas G w s t7)), some (.inl (zsn (zsn s (6 * t7)) v7)), some (.inl (t7 : Int)), some (.inl (v7 : Int))] ∧ (t7 : Int) < n ∧ n ≤ 50 ∧ 0 ≤ w ∧ w ≤ 2 ∧ 0 < (zPW G).1 ∧ 1 ≤ n ∧ v7 ≤ 6 ∧ m = (50 - t7) * 10 + 6 - v7 ∧ zF zCa h h2 ∧ zCx h2 G ∧ zPc h2 12 44 G ∧ ∀ v, 0 ≤ v → v < (v7 : Int) → h2 71 v = zdf (zsn s (6 * t7)) v)) (fun hok hM => ?_) (fun hok hM => ?_)
  · constructor
    · intro c1
      unfold zaA at hq
      first
      | (rw [if_neg (by omega)] at hq; exact hq _ zF.rf hc)
      | (rw [if_pos (by omega), if_pos (by omega)] at hq; exact hq _ (zCa_c hF1) hc1.p)
      | (rw [if_pos (by omega), if_neg (by omega)] at hq
         have ht2 : n.toNat = t7 := by omega
         rw [ht2] at hq
         exact hq _ hF hcx.p)
    · intro c1
      constructor
      · intro c2
        unfold zaA at hq
        first
        | (rw [if_neg (by omega)] at hq; exact hq _ zF.rf hc)
        | (rw [if_pos (by omega), if_pos (by omega)] at hq; exact hq _ (zCa_c hF1) hc1.p)
        | (rw [if_pos (by omega), if_neg (by omega)] at hq
           have ht2 : n.toNat = t7 := by omega
           rw [ht2] at hq
           exact hq _ hF hcx.p)
      · intro c2
        constructor
        · intro c3
          unfold zaA at hq
          first
          | (rw [if_neg (by omega)] at hq; exact hq _ zF.rf hc)
          | (rw [if_pos (by omega), if_pos (by omega)] at hq; exact hq _ (zCa_c hF1) hc1.p)
          | (rw [if_pos (by omega), if_neg (by omega)] at hq
             have ht2 : n.toNat = t7 := by omega
             rw [ht2] at hq
             exact hq _ hF hcx.p)
        · intro c3
          constructor
          · intro c4
            unfold zaA at hq
            first
            | (rw [if_neg (by omega)] at hq; exact hq _ zF.rf hc)
            | (rw [if_pos (by omega), if_pos (by omega)] at hq; exact hq _ (zCa_c hF1) hc1.p)
            | (rw [if_pos (by omega), if_neg (by omega)] at hq
               have ht2 : n.toNat = t7 := by omega
               rw [ht2] at hq
               exact hq _ hF hcx.p)
          · intro c4
            refine s_28 hp hw hc (fun h1 hF1 hc1 => ?_)
            have f1 := hc1.2.1
            have e7 := f1.2.2.2.1.2.1
            have n40 := (zPW_w hw).1
            have hp1 : zPc h1 12 44 G := hp.fr (fun w k hw => hF1 _ _ (zCf_n (by omega))) (fun k => hF1 _ _ (zCf_n (by omega))) (fun k => hF1 _ _ (zCf_n (by omega)))
            constructor
            · intro c5
              unfold zaA at hq
              first
              | (rw [if_neg (by omega)] at hq; exact hq _ zF.rf hc)
              | (rw [if_pos (by omega), if_pos (by omega)] at hq; exact hq _ (zCa_c hF1) hc1.p)
              | (rw [if_pos (by omega), if_neg (by omega)] at hq
                 have ht2 : n.toNat = t7 := by omega
                 rw [ht2] at hq
                 exact hq _ hF hcx.p)
            · intro c5
              exact ⟨_, Or.inl ⟨rfl, rfl, 0, _, rfl, by omega, by omega, by omega, by omega, by omega, by omega, rfl, zCa_c hF1, hc1, hp1⟩⟩
  · rintro n0 i0 L S h2 hM2 (hI | hI)
    · obtain ⟨rfl, rfl, t7, q7, rfl, ht, hn5, hw0, hw2, hn0, hn1, hm, hF, hcx, hpc⟩ := hI
      constructor
      · intro c6
        first
        | (exact ⟨(50 - t7) * 10 + 6 - 0, by omega, Or.inr ⟨rfl, rfl, t7, 0, rfl, by omega, hn5, hw0, hw2, hn0, hn1, by omega, rfl, hF, hcx, hpc, fun v h0 h1 => by omega⟩⟩)
        | (refine ⟨(50 - t7) * 10 + 6 - (v7 + 1), by omega, Or.inr ⟨rfl, rfl, t7, v7 + 1, rfl, ht, hn5, hw0, hw2, hn0, hn1, by omega, rfl, hF.st rfl, hcx.fr (fun r k hr => zst_nr (by omega)), hpc.fr (fun w k hw => zst_nr (by omega)) (fun k => zst_nr (by omega)) (fun k => zst_nr (by omega)), zfill hv ?_⟩⟩
           unfold zdf zdr
           rw [Int.toNat_natCast]
           show zx_and (zx_ushr (zsd (zsn (zsn s (6 * t7)) v7)) 16) 32767 % 12 = zx_and (zx_shr (zsd (zsn (zsn s (6 * t7)) v7)) 16) 32767 % 12
           rw [hau])
      · intro c6
        unfold zaA at hq
        first
        | (rw [if_neg (by omega)] at hq; exact hq _ zF.rf hc)
        | (rw [if_pos (by omega), if_pos (by omega)] at hq; exact hq _ (zCa_c hF1) hc1.p)
        | (rw [if_pos (by omega), if_neg (by omega)] at hq
           have ht2 : n.toNat = t7 := by omega
           rw [ht2] at hq
           exact hq _ hF hcx.p)
    · obtain ⟨rfl, rfl, t7, v7, rfl, ht, hn5, hw0, hw2, hn0, hn1, hv7, hm, hF, hcx, hpc, hv⟩ := hI
      have hand := zand_b (zx_shr (zsd (zsn (zsn s (6 * t7)) v7)) 16)
      have hau := zdr_u (zsd (zsn (zsn s (6 * t7)) v7))
      have hbs := zas_b hw w s t7
      have hbc := zcg_b hw (zdf_b (zsn s (6 * t7))) w
      constructor
      · intro c7
        refine And.intro (by show 0 ≤ zx_and (zx_ushr (zsd (zsn (zsn s (6 * t7)) v7)) 16) 32767 ∧ (0 : Int) < 12; omega) ?_
        refine And.intro (by show 0 ≤ _ ∧ _ < (6 : Int); omega) ?_
        refine And.intro (by omega) ?_
        first
        | (exact ⟨(50 - t7) * 10 + 6 - 0, by omega, Or.inr ⟨rfl, rfl, t7, 0, rfl, by omega, hn5, hw0, hw2, hn0, hn1, by omega, rfl, hF, hcx, hpc, fun v h0 h1 => by omega⟩⟩)
        | (refine ⟨(50 - t7) * 10 + 6 - (v7 + 1), by omega, Or.inr ⟨rfl, rfl, t7, v7 + 1, rfl, ht, hn5, hw0, hw2, hn0, hn1, by omega, rfl, hF.st rfl, hcx.fr (fun r k hr => zst_nr (by omega)), hpc.fr (fun w k hw => zst_nr (by omega)) (fun k => zst_nr (by omega)) (fun k => zst_nr (by omega)), zfill hv ?_⟩⟩
           unfold zdf zdr
           rw [Int.toNat_natCast]
           show zx_and (zx_ushr (zsd (zsn (zsn s (6 * t7)) v7)) 16) 32767 % 12 = zx_and (zx_shr (zsd (zsn (zsn s (6 * t7)) v7)) 16) 32767 % 12
           rw [hau])
      · intro c7
        refine s_42 ?_
        have v6 : v7 = 6 := by omega
        subst v6
        refine s_181o hpc hw (Or.inr ⟨rfl, rfl⟩) hv (zdf_b _) (fun h3 hG3 hr3 => ?_)
        have hA3 := zAr_r (Or.inl rfl) hG3
        have hc3 := hcx.fr (h2 := h3) (fun r k hr => hA3 _ _ (zAr_n (by omega)))
        have hp3 := hpc.fr (h2 := h3) (fun w k hw => hA3 _ _ (zAr_n (by omega))) (fun k => hA3 _ _ (zAr_n (by omega))) (fun k => hA3 _ _ (zAr_n (by omega)))
        have hf3 := hc3.2.1
        refine s_181l hp3 hw hf3.2.2.2.1 (Or.inr ⟨rfl, rfl⟩) hf3.1 (fun v h0 h6 => (hG3 _ _ rfl).trans (hv v h0 h6)) (zdf_b _) (fun h4 hG4 hr4 => ?_)
        have hA4 := zAr_r (Or.inr rfl) hG4
        have hc4 := hc3.fr (h2 := h4) (fun r k hr => hA4 _ _ (zAr_n (by omega)))
        have hp4 := hp3.fr (h2 := h4) (fun w k hw => hA4 _ _ (zAr_n (by omega))) (fun k => hA4 _ _ (zAr_n (by omega))) (fun k => hA4 _ _ (zAr_n (by omega)))
        have hf4 := hc4.2.1
        have hr34 : zRd h4 66 (zro G (zdf (zsn s (6 * t7)))) := by
          obtain ⟨⟨y1, y2, y3, y4⟩, y5, y6⟩ := hr3
          exact ⟨⟨(hG4 _ _ rfl).trans y1, (hG4 _ _ rfl).trans y2, (hG4 _ _ rfl).trans y3, fun v h0 h6 => (hG4 _ _ rfl).trans (y4 v h0 h6)⟩, (hG4 _ _ rfl).trans y5, (hG4 _ _ rfl).trans y6⟩
        have hb := zro_b hw (zdf_b (zsn s (6 * t7)))
        refine s_31 (zUG_b hw) hf4.1 hr34 hr4 hb.1 hb.2 ?_
        refine And.intro (by show -2147483648 ≤ zas G w s t7 + zcg G (zdf (zsn s (6 * t7))) w ∧ zas G w s t7 + zcg G (zdf (zsn s (6 * t7))) w < 2147483648; omega) ?_
        refine And.intro (by omega) ?_
        refine ⟨(50 - (t7 + 1)) * 10 + 8, by omega, Or.inl ⟨rfl, rfl, t7 + 1, some (.inl ((6 : Nat) : Int)), ?_, by omega, hn5, hw0, hw2, hn0, hn1, rfl, (hF.tr (zCa_A hA3)).tr (zCa_A hA4), hc4, hp4⟩⟩
        rw [zsn_a]
        rfl
