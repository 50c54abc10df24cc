/-! SWITCHES -/
theorem zx_sw_tab {j pc : Nat} {x : Int} {k : Nat → Prop} {dflt : Nat} : ∀ (os : List Int) (lo : Int) (ts : List (Int × Nat)), zk_tab j pc lo os ts = true → zx_sw x k ts dflt → ((x < lo ∨ lo + (os.length : Int) ≤ x) ∧ k dflt) ∨ (lo ≤ x ∧ ∃ o t, os[(x - lo).toNat]? = some o ∧ (pc : Int) + o = (zx_pc j t : Int) ∧ k t)
  | [], lo, [], _, h => Or.inl ⟨by simp; omega, h⟩
  | [], lo, _ :: _, hz, _ => by simp [zk_tab] at hz
  | _ :: _, lo, [], hz, _ => by simp [zk_tab] at hz
  | o :: os, lo, (v, t) :: ts, hz, h => by
    simp only [zk_tab, zk_t, Bool.and_eq_true, decide_eq_true_eq] at hz
    obtain ⟨⟨hv, ht⟩, hz⟩ := hz
    by_cases c : x = v
    · refine Or.inr ⟨by omega, o, t, ?_, ht, h.1 c⟩
      rw [show (x - lo).toNat = 0 by omega]
      rfl
    · rcases zx_sw_tab os (lo + 1) ts hz (h.2 c) with ⟨h1, h2⟩ | ⟨h1, o2, t2, h2, h3, h4⟩
      · refine Or.inl ⟨?_, h2⟩
        simp only [List.length_cons]
        omega
      · refine Or.inr ⟨by omega, o2, t2, ?_, h3, h4⟩
        rw [show (x - lo).toNat = (x - (lo + 1)).toNat + 1 by omega]
        exact h2
theorem zx_sw_lkp {j pc : Nat} {x : Int} {k : Nat → Prop} {dflt : Nat} {od : Int} (hd : (pc : Int) + od = (zx_pc j dflt : Int)) : ∀ (os : List (Int × Int)) (ts : List (Int × Nat)), zk_lkp j pc os ts = true → zx_sw x k ts dflt → ∃ t, (pc : Int) + Op.lookupswitch.offset os od x = (zx_pc j t : Int) ∧ k t
  | [], [], _, h => ⟨dflt, by rw [show Op.lookupswitch.offset [] od x = od from rfl]; exact hd, h⟩
  | [], _ :: _, hz, _ => by simp [zk_lkp] at hz
  | _ :: _, [], hz, _ => by simp [zk_lkp] at hz
  | (w, o) :: os, (v, t) :: ts, hz, h => by
    simp only [zk_lkp, zk_t, Bool.and_eq_true, decide_eq_true_eq] at hz
    obtain ⟨⟨hv, ht⟩, hz⟩ := hz
    by_cases c : x = v
    · refine ⟨t, ?_, h.1 c⟩
      rw [Op.lookupswitch.offset_cons, if_pos (by omega)]
      exact ht
    · obtain ⟨t2, h1, h2⟩ := zx_sw_lkp hd os ts hz (h.2 c)
      refine ⟨t2, ?_, h2⟩
      rw [Op.lookupswitch.offset_cons, if_neg (by omega)]
      exact h1
theorem zk_m_inv {j : Nat} {ts : List (Int × Nat)} {y : MethodName} {lo : Nat} (h : zk_m j ts y lo = true) : Cond.methodLink (zc_own j) (zk_ix ts) y ∈ zc_tb ∧ 1 ≤ (zx_rm j).frames ∧ 8 + lo ≤ (zx_rm j).locals := by
  unfold zk_m at h
  split at h
  · simp only [Bool.and_eq_true, decide_eq_true_eq] at h
    exact ⟨zk_w_in h.1.1, h.1.2, h.2⟩
  · cases h
theorem zk_ret_inv {j : Nat} {v : Bool} (h : zk_ret j v = true) : ∃ n, zx_rt j = some (.object n) := by
  unfold zk_ret at h
  split at h
  · rename_i n hn
    exact ⟨n, hn⟩
  · cases h
section ZV
variable {j : Nat} {p : Program} {l : Launch} {e : Env} {s : State} {m : MethodId} {args : Array Value} {below : List Frame} {meth : Method} {c : Code} {D : va_G} {ad adV : Nat → Nat} {cA : Nat → ClassId} {A : Nat → Prop} {Qf : State → Prop} {i : Nat} {L : zL} {S : List zV} {h : zM} {Q : zQ} {K : Nat → zL → List zV → zM → Prop} {R : Nat → List zV → zM → zQ → Prop}
theorem zs_tableswitch {n lo hi : Int} {os : Array Int} {pc len a b : Nat} {d : Int} {ts : List (Int × Nat)} (C : zc_C j p s m args meth c D ad adV cA A) (he : zk_e j i (pc, .tableswitch n lo hi os, len, a, b, d, ts) = true) (hA : zx_act R (pc, .tableswitch n lo hi os, len, a, b, d, ts) i L S h Q K) (hK : ∀ i2 L2 S2 h2, K i2 L2 S2 h2 → zc_W j p l e s m args below meth c D ad adV cA A Qf i2 L2 S2 h2) : zc_W j p l e s m args below meth c D ad adV cA A Qf i L S h := by
  intro H locs ls I
  simp only [zk_e, Bool.and_eq_true, decide_eq_true_eq, zk_d, zk_t] at he
  obtain ⟨hpc, ⟨⟨hd, ht⟩, htab⟩, hhi⟩ := he
  obtain ⟨x, S2, rfl, hk⟩ := zx_p1_inv hA
  have hx : (Int32.ofInt x).toInt = x := zc_io I.top
  rw [hpc]
  rcases zx_sw_tab _ _ _ htab hk with ⟨h1, h2⟩ | ⟨h1, o, t, h2, h3, h4⟩
  · refine lv_tableOut (x := Int32.ofInt x) (rest := S2.map (zc_v ad)) C.1 C.2.1 hd (by rw [hx]; simp at h1; omega) ht ?_
    exact zc_next hK rfl h2 I.rest
  · have hlt : (x - lo).toNat < os.size := by
      have := (List.getElem?_eq_some_iff.mp h2).1
      simpa using this
    refine lv_tableIn (x := Int32.ofInt x) (off := o) (rest := S2.map (zc_v ad)) C.1 C.2.1 hd (by rw [hx]; omega) (by rw [hx]; omega) (by rw [hx]; simpa using h2) h3 ?_
    exact zc_next hK rfl h4 I.rest
theorem zs_lookupswitch {n : Int} {os : Array (Int × Int)} {pc len a b : Nat} {d : Int} {ts : List (Int × Nat)} (C : zc_C j p s m args meth c D ad adV cA A) (he : zk_e j i (pc, .lookupswitch n os, len, a, b, d, ts) = true) (hA : zx_act R (pc, .lookupswitch n os, len, a, b, d, ts) i L S h Q K) (hK : ∀ i2 L2 S2 h2, K i2 L2 S2 h2 → zc_W j p l e s m args below meth c D ad adV cA A Qf i2 L2 S2 h2) : zc_W j p l e s m args below meth c D ad adV cA A Qf i L S h := by
  intro H locs ls I
  simp only [zk_e, Bool.and_eq_true, decide_eq_true_eq, zk_d, zk_t] at he
  obtain ⟨hpc, ⟨⟨hd, ht⟩, htab⟩, hso⟩ := he
  obtain ⟨x, S2, rfl, hk⟩ := zx_p1_inv hA
  have hx : (Int32.ofInt x).toInt = x := zc_io I.top
  rw [hpc]
  obtain ⟨t, h1, h2⟩ := zx_sw_lkp ht _ _ htab hk
  refine lv_lookup (x := Int32.ofInt x) (off := Op.lookupswitch.offset os.toList n x) (rest := S2.map (zc_v ad)) C.1 C.2.1 hd hso (by rw [hx]) h1 ?_
  exact zc_next hK rfl h2 I.rest
theorem zs_monitorenter {pc len a b : Nat} {d : Int} {ts : List (Int × Nat)} (C : zc_C j p s m args meth c D ad adV cA A) (he : zk_e j i (pc, .monitorenter, len, a, b, d, ts) = true) (hA : zx_act R (pc, .monitorenter, len, a, b, d, ts) i L S h Q K) (hK : ∀ i2 L2 S2 h2, K i2 L2 S2 h2 → zc_W j p l e s m args below meth c D ad adV cA A Qf i2 L2 S2 h2) : zc_W j p l e s m args below meth c D ad adV cA A Qf i L S h := by
  intro H locs ls I
  simp only [zk_e, Bool.and_eq_true, decide_eq_true_eq, zk_s, zk_d] at he
  obtain ⟨hpc, ⟨hd, hn⟩, hm⟩ := he
  obtain ⟨x, y, S2, rfl, hk⟩ := zx_p2_inv hA
  obtain ⟨hlow, hk⟩ := zx_low_inv hk
  obtain ⟨m1, m2, m3⟩ := zk_m_inv hm
  have hcat := zc_cats ad S2
  have hy : zc_i y := I.top
  have hx : zc_i x := I.rest.top
  rw [hpc]
  refine va_mmax (x := Int32.ofInt x) (y := Int32.ofInt y) (rest := S2.map (zc_v ad)) C.1 C.2.1 (C.2.2.2.1.trans I.2.1.1.size.symm) C.2.2.2.2.1 (C.2.2.2.2.2.1 _ m1) (C.2.2.2.2.2.1 _ (zc_tbI zc_wmax.1 rfl)) (C.2.2.2.2.2.1 _ (zc_tbI zc_wmax.2.1 rfl)) (C.2.2.2.2.2.1 _ (zc_tbI zc_wmax.2.2 rfl)) m2 (by omega) (Nat.zero_le _) (Nat.zero_le _) hd ?_
  have ee : (if Int32.ofInt x < Int32.ofInt y then Int32.ofInt y else Int32.ofInt x) = Int32.ofInt (if x < y then y else x) := by
    by_cases q : x < y
    · rw [if_pos q, if_pos ((zc_lt hx hy).mpr q)]
    · rw [if_neg q, if_neg (fun z => q ((zc_lt hx hy).mp z))]
  rw [ee]
  exact zc_next hK hn hk (I.rest.rest.push (v := .inl _) (by by_cases q : x < y <;> simp only [q, if_true, if_false] <;> assumption))
theorem zs_monitorexit {pc len a b : Nat} {d : Int} {ts : List (Int × Nat)} (C : zc_C j p s m args meth c D ad adV cA A) (he : zk_e j i (pc, .monitorexit, len, a, b, d, ts) = true) (hA : zx_act R (pc, .monitorexit, len, a, b, d, ts) i L S h Q K) (hK : ∀ i2 L2 S2 h2, K i2 L2 S2 h2 → zc_W j p l e s m args below meth c D ad adV cA A Qf i2 L2 S2 h2) : zc_W j p l e s m args below meth c D ad adV cA A Qf i L S h := by
  intro H locs ls I
  simp only [zk_e, Bool.and_eq_true, decide_eq_true_eq, zk_s, zk_d] at he
  obtain ⟨hpc, ⟨hd, hn⟩, hm⟩ := he
  obtain ⟨x, y, S2, rfl, hk⟩ := zx_p2_inv hA
  obtain ⟨hlow, hk⟩ := zx_low_inv hk
  obtain ⟨m1, m2, m3⟩ := zk_m_inv hm
  have hcat := zc_cats ad S2
  have hy : zc_i y := I.top
  have hx : zc_i x := I.rest.top
  rw [hpc]
  refine va_mmin (x := Int32.ofInt x) (y := Int32.ofInt y) (rest := S2.map (zc_v ad)) C.1 C.2.1 (C.2.2.2.1.trans I.2.1.1.size.symm) C.2.2.2.2.1 (C.2.2.2.2.2.1 _ m1) (C.2.2.2.2.2.1 _ (zc_tbI zc_wmin.1 rfl)) (C.2.2.2.2.2.1 _ (zc_tbI zc_wmax.2.1 rfl)) (C.2.2.2.2.2.1 _ (zc_tbI zc_wmin.2 rfl)) m2 (by omega) (Nat.zero_le _) (Nat.zero_le _) hd ?_
  have ee : (if Int32.ofInt y < Int32.ofInt x then Int32.ofInt y else Int32.ofInt x) = Int32.ofInt (if y < x then y else x) := by
    by_cases q : y < x
    · rw [if_pos q, if_pos ((zc_lt hy hx).mpr q)]
    · rw [if_neg q, if_neg (fun z => q ((zc_lt hy hx).mp z))]
  rw [ee]
  exact zc_next hK hn hk (I.rest.rest.push (v := .inl _) (by by_cases q : y < x <;> simp only [q, if_true, if_false] <;> assumption))
theorem zs_swap {pc len a b : Nat} {d : Int} {ts : List (Int × Nat)} (C : zc_C j p s m args meth c D ad adV cA A) (he : zk_e j i (pc, .swap, len, a, b, d, ts) = true) (hA : zx_act R (pc, .swap, len, a, b, d, ts) i L S h Q K) (hK : ∀ i2 L2 S2 h2, K i2 L2 S2 h2 → zc_W j p l e s m args below meth c D ad adV cA A Qf i2 L2 S2 h2) : zc_W j p l e s m args below meth c D ad adV cA A Qf i L S h := by
  intro H locs ls I
  simp only [zk_e, Bool.and_eq_true, decide_eq_true_eq, zk_s, zk_d] at he
  obtain ⟨hpc, ⟨hd, hn⟩, hm⟩ := he
  obtain ⟨n, dp, r2, sp, r, S2, rfl, ⟨ht, ht2, h1, h2, h3, h4, h5⟩, hk⟩ : ∃ n dp r2 sp r S2, S = .inl n :: .inl dp :: .inr (.inr r2) :: .inl sp :: .inr (.inr r) :: S2 ∧ (zx_tg r = 1 ∧ zx_tg r2 = 1 ∧ 0 ≤ sp ∧ 0 ≤ dp ∧ 0 ≤ n ∧ sp + n ≤ zx_ln r ∧ dp + n ≤ zx_ln r2) ∧ zx_low S2 (K (i + 1) L S2 (zx_cp h r sp r2 dp n)) := by
    simp only [zx_act] at hA
    split at hA
    · exact ⟨_, _, _, _, _, _, rfl, hA⟩
    · exact hA.elim
  obtain ⟨hlow, hk⟩ := zx_low_inv hk
  obtain ⟨m1, m2, m3⟩ := zk_m_inv hm
  have hcat := zc_cats ad S2
  have q1 : zc_i n := I.top
  have q2 : zc_i dp := I.rest.top
  have q3 : zc_i sp := I.rest.rest.rest.top
  have hr2 : r2 < 108 := zc_r (by rw [ht2]; decide)
  have e4 : sp + n ≤ (zx_n r : Int) := h4
  have e5 : dp + n ≤ (zx_n r2 : Int) := h5
  rw [hpc]
  refine va_copyi (ty := .int) (rest := S2.map (zc_v ad)) C.1 C.2.1 (C.2.2.2.1.trans I.2.1.1.size.symm) C.2.2.2.2.1 (C.2.2.2.2.2.1 _ m1) (C.2.2.2.2.2.1 _ (zc_tbI zc_wcpy.1 rfl)) (C.2.2.2.2.2.1 _ (zc_tbI zc_wcpy.2.1 rfl)) (C.2.2.2.2.2.1 _ (zc_tbI zc_wcpy.2.2 rfl)) C.2.2.2.2.2.2.2.1 I.1.1 I.1.2.1 I.1.2.2 r r2 1 1 (zc_c1 ht) (zc_c1 ht2) rfl rfl rfl (fun z => by have := (zc_lt0 q3).mp z; omega) (fun z => by have := (zc_lt0 q2).mp z; omega) (fun z => by have := (zc_lt0 q1).mp z; omega) (by rw [zc_cl q3, zc_cl q1]; omega) (by rw [zc_cl q2, zc_cl q1]; omega) (fun _ _ => rfl) m2 (by omega) hd (fun H1 locs1 hP hD hS => ?_)
  rw [zc_cl q3, zc_cl q2, zc_cl q1, zc_cpy h1 h2 h3] at hP hD
  have ee : (zc_ws ad cA h).set r2 (ad r2, .inl (cA 1, zx_n r2, .inl (fun k : Nat => Int32.ofInt (zx_cp h r sp r2 dp n r2 (k : Int))))) = zc_ws ad cA (zx_cp h r sp r2 dp n) :=
    zc_set hr2 (by rw [zc_el1 ht2]) (fun q _ hne => zc_el_of (fun k => if_neg (fun z => hne z.1)))
  rw [ee] at hP hD
  exact zc_next hK hn hk ⟨⟨hP, hD, hS⟩, I.2.1, I.rest.rest.rest.rest.rest.2.2.1, zc_cp_M I.2.2.2⟩
/-! ANSWERS -/
theorem zc_end {H : Heap} {locs : List Loc} {ls : Array Slot} {rv : Option zV} {t : State} (C : zc_C j p s m args meth c D ad adV cA A) (I : zc_I j s D ad cA A L S h H locs ls) (hq : Q rv h) (hok : zc_okO rv) (ht : t.heap = H) (hW : s.WarmedH t.vm) : zc_Qc Q D ad cA A args s (.returned (rv.map (zc_v ad))) t :=
  ⟨⟨rv, h, rfl, ⟨hq, hok, I.2.2.2⟩, by rw [ht]; exact I.1.1, va_K.moved hW.alike C.2.2.2.2.2.2.2.1, I.1.2.1⟩, I.1.2.2.F ht⟩
theorem zs_ireturn {pc len a b : Nat} {d : Int} {ts : List (Int × Nat)} (C : zc_C j p s m args meth c D ad adV cA A) (he : zk_e j i (pc, .ireturn, len, a, b, d, ts) = true) (hA : zx_act R (pc, .ireturn, len, a, b, d, ts) i L S h Q K) : zc_W j p l e s m args below meth c D ad adV cA A (MQ below (zc_Qc Q D ad cA A) args s 0 0 A) i L S h := by
  intro H locs ls I
  simp only [zk_e, Bool.and_eq_true, decide_eq_true_eq, zk_d] at he
  obtain ⟨hpc, hd, hr⟩ := he
  obtain ⟨x, rfl, hq⟩ : ∃ x, S = [.inl x] ∧ Q (some (.inl x)) h := by
    simp only [zx_act] at hA
    split at hA
    · exact ⟨_, rfl, hA⟩
    · exact hA.elim
  rw [hpc]
  exact W.iret (v := Int32.ofInt x) C.1 C.2.1 (C.2.2.1.trans hr) (fun t ht hW => zc_end (rv := some (.inl x)) C I hq (fun v hv => by cases hv; exact I.top) ht hW) I.1.2.2.2.2 hd C.2.2.2.2.2.2.1
theorem zs_freturn {pc len a b : Nat} {d : Int} {ts : List (Int × Nat)} (C : zc_C j p s m args meth c D ad adV cA A) (he : zk_e j i (pc, .freturn, len, a, b, d, ts) = true) (hA : zx_act R (pc, .freturn, len, a, b, d, ts) i L S h Q K) : zc_W j p l e s m args below meth c D ad adV cA A (MQ below (zc_Qc Q D ad cA A) args s 0 0 A) i L S h := by
  intro H locs ls I
  simp only [zk_e, Bool.and_eq_true, decide_eq_true_eq, zk_d] at he
  obtain ⟨hpc, hd, hr⟩ := he
  obtain ⟨x, rfl, h01, hq⟩ : ∃ x, S = [.inl x] ∧ (x = 0 ∨ x = 1) ∧ Q (some (.inl x)) h := by
    simp only [zx_act] at hA
    split at hA
    · exact ⟨_, rfl, hA⟩
    · exact hA.elim
  rw [hpc]
  exact W.zret (v := Int32.ofInt x) (ty := .boolean) C.1 C.2.1 (C.2.2.1.trans hr) (by rcases h01 with rfl | rfl <;> decide) (fun t ht hW => zc_end (rv := some (.inl x)) C I hq (fun v hv => by cases hv; exact I.top) ht hW) I.1.2.2.2.2 hd C.2.2.2.2.2.2.1
theorem zs_areturn {pc len a b : Nat} {d : Int} {ts : List (Int × Nat)} (C : zc_C j p s m args meth c D ad adV cA A) (he : zk_e j i (pc, .areturn, len, a, b, d, ts) = true) (hA : zx_act R (pc, .areturn, len, a, b, d, ts) i L S h Q K) : zc_W j p l e s m args below meth c D ad adV cA A (MQ below (zc_Qc Q D ad cA A) args s 0 0 A) i L S h := by
  intro H locs ls I
  simp only [zk_e, Bool.and_eq_true, decide_eq_true_eq, zk_d] at he
  obtain ⟨hpc, hd, hr⟩ := he
  obtain ⟨nm, hr⟩ := zk_ret_inv hr
  obtain ⟨x, rfl, hq⟩ : ∃ x, S = [.inr (.inr x)] ∧ Q (some (.inr (.inr x))) h := by
    simp only [zx_act] at hA
    split at hA
    · exact ⟨_, rfl, hA⟩
    · exact hA.elim
  rw [hpc]
  exact W.aret (v := Value.ref (ad x)) C.1 C.2.1 (C.2.2.1.trans hr) (Or.inl ⟨nm, rfl⟩) (Or.inr ⟨_, rfl⟩) (fun t ht hW => zc_end (rv := some (.inr (.inr x))) C I hq (fun v hv => by cases hv; trivial) ht hW) I.1.2.2.2.2 hd C.2.2.2.2.2.2.1
theorem zs_return {pc len a b : Nat} {d : Int} {ts : List (Int × Nat)} (C : zc_C j p s m args meth c D ad adV cA A) (he : zk_e j i (pc, .return_, len, a, b, d, ts) = true) (hA : zx_act R (pc, .return_, len, a, b, d, ts) i L S h Q K) : zc_W j p l e s m args below meth c D ad adV cA A (MQ below (zc_Qc Q D ad cA A) args s 0 0 A) i L S h := by
  intro H locs ls I
  simp only [zk_e, Bool.and_eq_true, decide_eq_true_eq, zk_d] at he
  obtain ⟨hpc, hd, hr⟩ := he
  obtain ⟨rfl, hq⟩ : S = [] ∧ Q none h := by
    simp only [zx_act] at hA
    split at hA
    · exact ⟨rfl, hA⟩
    · exact hA.elim
  rw [hpc]
  exact W.vret C.1 C.2.1 (C.2.2.1.trans hr) (fun t ht hW => zc_end (rv := none) C I hq (fun v hv => by cases hv) ht hW) I.1.2.2.2.2 hd C.2.2.2.2.2.2.1
set_option maxHeartbeats 4000000 in
/-- ONE STEP of the shadow is one of the machine -/
theorem zc_step {w : zE} (C : zc_C j p s m args meth c D ad adV cA A) (he : zk_e j i w = true) (hA : zx_act zR w i L S h Q K) (hK : ∀ i2 L2 S2 h2, K i2 L2 S2 h2 → zc_W j p l e s m args below meth c D ad adV cA A (MQ below (zc_Qc Q D ad cA A) args s 0 0 A) i2 L2 S2 h2) : zc_W j p l e s m args below meth c D ad adV cA A (MQ below (zc_Qc Q D ad cA A) args s 0 0 A) i L S h := by
  obtain ⟨pc, ins, len, a, b, d, ts⟩ := w
  cases ins
  case iload n => exact zs_iload C he hA hK
  case iload_n n => exact zs_iload_n C he hA hK
  case lload n => exact zs_lload C he hA hK
  case lload_n n => exact zs_lload_n C he hA hK
  case aload n => exact zs_aload C he hA hK
  case aload_n n => exact zs_aload_n C he hA hK
  case iconst n => exact zs_iconst C he hA hK
  case bipush n => exact zs_bipush C he hA hK
  case sipush n => exact zs_sipush C he hA hK
  case lconst n => exact zs_lconst C he hA hK
  case ldc2_w n => exact zs_ldc2_w C he hA hK
  case ldc n => exact zs_ldc C he hA hK
  case ldc_w n => exact zs_ldc_w C he hA hK
  case istore n => exact zs_istore C he hA hK
  case istore_n n => exact zs_istore_n C he hA hK
  case astore n => exact zs_astore C he hA hK
  case astore_n n => exact zs_astore_n C he hA hK
  case lstore n => exact zs_lstore C he hA hK
  case iinc n v => exact zs_iinc C he hA hK
  case iadd => exact zs_iadd C he hA hK
  case isub => exact zs_isub C he hA hK
  case imul => exact zs_imul C he hA hK
  case fadd => exact zs_fadd C he hA hK
  case fsub => exact zs_fsub C he hA hK
  case fmul => exact zs_fmul C he hA hK
  case iand => exact zs_iand C he hA hK
  case ior => exact zs_ior C he hA hK
  case ixor => exact zs_ixor C he hA hK
  case ishl => exact zs_ishl C he hA hK
  case ishr => exact zs_ishr C he hA hK
  case iushr => exact zs_iushr C he hA hK
  case idiv => exact zs_idiv C he hA hK
  case irem => exact zs_irem C he hA hK
  case i2b => exact zs_i2b C he hA hK
  case d2i => exact zs_d2i C he hA hK
  case i2s => exact zs_i2s C he hA hK
  case i2l => exact zs_i2l C he hA hK
  case l2i => exact zs_l2i C he hA hK
  case ladd => exact zs_ladd C he hA hK
  case lcmp => exact zs_lcmp C he hA hK
  case dup => exact zs_dup C he hA hK
  case dup2 => exact zs_dup2 C he hA hK
  case pop => exact zs_pop C he hA hK
  case goto n => exact zs_goto C he hA hK
  case ifCond q n => exact zs_ifCond C he hA hK
  case if_icmp q n => exact zs_if_icmp C he hA hK
  case tableswitch n lo hi os => exact zs_tableswitch C he hA hK
  case lookupswitch n os => exact zs_lookupswitch C he hA hK
  case getfield n => exact zs_getfield C he hA hK
  case putfield n => exact zs_putfield C he hA hK
  case putstatic n => exact zs_putstatic C he hA hK
  case arraylength => exact zs_arraylength C he hA hK
  case iaload => exact zs_iaload C he hA hK
  case baload => exact zs_baload C he hA hK
  case saload => exact zs_saload C he hA hK
  case aaload => exact zs_aaload C he hA hK
  case iastore => exact zs_iastore C he hA hK
  case bastore => exact zs_bastore C he hA hK
  case sastore => exact zs_sastore C he hA hK
  case monitorenter => exact zs_monitorenter C he hA hK
  case monitorexit => exact zs_monitorexit C he hA hK
  case swap => exact zs_swap C he hA hK
  case invokevirtual n => exact zs_invokevirtual C he hA hK
  case invokestatic n => exact zs_invokestatic C he hA hK
  case ireturn => exact zs_ireturn C he hA
  case freturn => exact zs_freturn C he hA
  case areturn => exact zs_areturn C he hA
  case return_ => exact zs_return C he hA
  all_goals exact False.elim hA
end ZV
