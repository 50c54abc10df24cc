/-! CLASSES, SHAPES: what a program decides of them -/
theorem zc_u0 : ∀ w ∈ u_ws RX0 TX0 2, w ∈ lw_tbl ∧ goodWord w = true := by decide +kernel
theorem zc_u1 : ∀ w ∈ u_ws RX1 TX1 2, w ∈ lw_tbl ∧ goodWord w = true := by decide +kernel
theorem zc_u2 : ∀ w ∈ u_ws RX2 TX2 8, w ∈ lw_tbl ∧ goodWord w = true := by decide +kernel
theorem zc_u3 : ∀ w ∈ u_ws RX3 TX3 3, w ∈ lw_tbl ∧ goodWord w = true := by decide +kernel
theorem zc_u4 : ∀ w ∈ u_ws RX4 TX4 8, w ∈ lw_tbl ∧ goodWord w = true := by decide +kernel
theorem zc_u5 : ∀ w ∈ u_ws RX5 TX5 6, w ∈ lw_tbl ∧ goodWord w = true := by decide +kernel
theorem zc_u6 : ∀ w ∈ u_ws RX6 TX6 3, w ∈ lw_tbl ∧ goodWord w = true := by decide +kernel
theorem zc_u7 : ∀ w ∈ u_ws RX7 TX7 2, w ∈ lw_tbl ∧ goodWord w = true := by decide +kernel
theorem zc_u8 : ∀ w ∈ u_ws RX8 TX8 9, w ∈ lw_tbl ∧ goodWord w = true := by decide +kernel
theorem zc_u9 : ∀ w ∈ u_ws RX9 TX9 17, w ∈ lw_tbl ∧ goodWord w = true := by decide +kernel
theorem zc_u10 : ∀ w ∈ u_ws RX10 TX10 46, w ∈ lw_tbl ∧ goodWord w = true := by decide +kernel
def zc_Cl (q : vw_C) : Prop := (∀ w ∈ u_ws q.1 q.2.1 q.2.2, w ∈ zc_tb) ∧ (∃ ty : Nat → FieldType, ∀ k, k < q.2.2 → parseFieldDescriptor (q.2.1 k).2.2.1 = some (ty k)) ∧ (∀ x, x < q.2.2 → ∀ y, y < q.2.2 → x ≠ y → (q.2.1 x).2.1 ≠ (q.2.1 y).2.1)
theorem zc_Cl_of {C : String} {T : u_T} {N : Nat} (ty : Nat → FieldType) (h : ∀ w ∈ u_ws C T N, w ∈ lw_tbl ∧ goodWord w = true) (h2 : ∀ k, k < N → parseFieldDescriptor (T k).2.2.1 = some (ty k)) (h3 : ∀ a, a < N → ∀ b, b < N → a ≠ b → (T a).2.1 ≠ (T b).2.1) : zc_Cl (C, T, N) :=
  ⟨fun w hw => List.mem_filter.mpr (h w hw), ⟨ty, h2⟩, h3⟩
theorem zc_cls {a : Nat} {q : vw_C} (h : vwCl[a]? = some q) : zc_Cl q := by
  match a, h with
  | 0, h => cases h; exact zc_Cl_of tyX0 zc_u0 tyX0_ok nmX0
  | 1, h => cases h; exact zc_Cl_of tyX1 zc_u1 tyX1_ok nmX1
  | 2, h => cases h; exact zc_Cl_of tyX2 zc_u2 tyX2_ok nmX2
  | 3, h => cases h; exact zc_Cl_of tyX3 zc_u3 tyX3_ok nmX3
  | 4, h => cases h; exact zc_Cl_of tyX4 zc_u4 tyX4_ok nmX4
  | 5, h => cases h; exact zc_Cl_of tyX5 zc_u5 tyX5_ok nmX5
  | 6, h => cases h; exact zc_Cl_of tyX6 zc_u6 tyX6_ok nmX6
  | 7, h => cases h; exact zc_Cl_of tyX7 zc_u7 tyX7_ok nmX7
  | 8, h => cases h; exact zc_Cl_of tyX8 zc_u8 tyX8_ok nmX8
  | 9, h => cases h; exact zc_Cl_of tyX9 zc_u9 tyX9_ok nmX9
  | 10, h => cases h; exact zc_Cl_of tyX10 zc_u10 tyX10_ok nmX10
  | k + 11, h => simp at h
theorem zc_shp : ∀ r, r < 108 → zx_tg r = 0 → (vwCl[zx_ci r]?).map (fun q => q.2.2) = some (zx_n r) := by decide +kernel
theorem zc_nle : ∀ r, r < 108 → zx_n r ≤ 4800 := by decide +kernel
theorem zc_refs : ∀ r, r < 108 → (zx_tg r = 4 ∨ zx_tg r = 5) → ∀ k, k < zx_n r → (zx_nt (zx_rf r) k).isSome = true := by decide +kernel
theorem zc_wmax : Cond.static Lib.Math.max.name ∈ lw_tbl ∧ Cond.initialized "java/lang/Math" ∈ lw_tbl ∧ Cond.code Lib.Math.max.name Lib.Math.max.code 2 (some .int) ∈ lw_tbl := by decide +kernel
theorem zc_wmin : Cond.static Lib.Math.min.name ∈ lw_tbl ∧ Cond.code Lib.Math.min.name Lib.Math.min.code 2 (some .int) ∈ lw_tbl := by decide +kernel
theorem zc_wcpy : Cond.native arraycopyName ∈ lw_tbl ∧ Cond.static arraycopyName ∈ lw_tbl ∧ Cond.initialized "java/lang/System" ∈ lw_tbl := by decide +kernel
theorem zc_tbI {w : Cond} (h : w ∈ lw_tbl) (hg : goodWord w = true) : w ∈ zc_tb := List.mem_filter.mpr ⟨h, hg⟩
theorem zk_f_inv {j k a b : Nat} {d : Int} {ts : List (Int × Nat)} {put : Bool} {ty : FieldType} (h : zk_f j k a b d ts put ty = true) : ∃ (q : Int) (C : String) (T : u_T) (N : Nat), vwCl[a]? = some (C, T, N) ∧ d = (b : Int) ∧ b < N ∧ zk_w q.toNat (.fieldLink (zc_own j) k (T b).1 (T b).2.1 (T b).2.2.1) = true ∧ (put = true → (T b).2.2.2 = false ∧ parseFieldDescriptor (T b).2.2.1 = some ty) := by
  unfold zk_f at h
  split at h
  · rename_i q _ C T N hq
    simp only [Bool.and_eq_true, decide_eq_true_eq, Bool.or_eq_true, Bool.not_eq_true'] at h
    obtain ⟨⟨⟨h1, h2⟩, h3⟩, h4⟩ := h
    refine ⟨q, C, T, N, hq, h1, h2, h3, fun hp => ?_⟩
    rcases h4 with h4 | h4
    · rw [hp] at h4; cases h4
    · exact h4
  · cases h
section ZT
variable {j : Nat} {p : Program} {l : Launch} {e : Env} {s : State} {m : MethodId} {args : Array Value} {below : List Frame} {meth : Method} {c : Code} {D : va_G} {ad adV : Nat → Nat} {cA : Nat → ClassId} {A : Nat → Prop} {Qf : State → Prop} {i : Nat} {L : zL} {S : List zV} {h : zM} {Q : zQ} {K : Nat → zL → List zV → zM → Prop} {R : Nat → List zV → zM → zQ → Prop}
theorem zc_obj {a b : Nat} {C : String} {T : u_T} {N r : Nat} (ho : zx_ob r a b) (hc : vwCl[a]? = some (C, T, N)) : r < 108 ∧ N = zx_n r ∧ (zc_ws ad cA h)[r]? = some (ad r, .inr (a, zc_fs ad h r)) := by
  obtain ⟨ht, hci, hb⟩ := ho
  have hr : r < 108 := zc_r (by rw [ht]; decide)
  have h1 := zc_shp r hr ht
  rw [hci, hc] at h1
  refine ⟨hr, Option.some.inj h1, ?_⟩
  rw [zc_at ad cA h hr, zc_el0 ht, hci]
theorem zc_c1 {r : Nat} (ht : zx_tg r = 1) : (zc_ws ad cA h)[r]? = some (ad r, .inl (cA 1, zx_n r, .inl (fun k : Nat => Int32.ofInt (h r (k : Int))))) := by rw [zc_at ad cA h (zc_r (by rw [ht]; decide)), zc_el1 ht]
theorem zc_c2 {r : Nat} (ht : zx_tg r = 2) : (zc_ws ad cA h)[r]? = some (ad r, .inl (cA 2, zx_n r, .inl (fun k : Nat => Int32.ofInt (h r (k : Int))))) := by rw [zc_at ad cA h (zc_r (by rw [ht]; decide)), zc_el2 ht]
theorem zc_c3 {r : Nat} (ht : zx_tg r = 3) : (zc_ws ad cA h)[r]? = some (ad r, .inl (cA 3, zx_n r, .inl (fun k : Nat => Int32.ofInt (h r (k : Int))))) := by rw [zc_at ad cA h (zc_r (by rw [ht]; decide)), zc_el3 ht]
theorem zc_c4 {r : Nat} (ht : zx_tg r = 4) : (zc_ws ad cA h)[r]? = some (ad r, .inl (cA 4, zx_n r, .inr (.inr (.inr (.inr (fun k : Nat => (zx_nt (zx_rf r) k).map ad)))))) := by rw [zc_at ad cA h (zc_r (by rw [ht]; decide)), zc_el4 ht]
theorem zc_c5 {r : Nat} (ht : zx_tg r = 5) : (zc_ws ad cA h)[r]? = some (ad r, .inl (cA 5, zx_n r, .inr (.inr (.inr (.inr (fun k : Nat => (zx_nt (zx_rf r) k).map ad)))))) := by rw [zc_at ad cA h (zc_r (by rw [ht]; decide)), zc_el5 ht]
theorem zc_fld_ok (hM : zc_M h) {o : Option Nat} {r : Nat} {k : Int} : zc_ok (zx_fld o (h r k)) := by
  cases o with
  | none => exact hM r k
  | some q => trivial
theorem zs_getfield {n pc len a b : Nat} {d : Int} {ts : List (Int × Nat)} (C : zc_C j p s m args meth c D ad adV cA A) (he : zk_e j i (pc, .getfield n, len, a, b, d, ts) = true) (hA : zx_act R (pc, .getfield n, len, a, b, d, ts) i L S h Q K) (hK : ∀ i2 L2 S2 h2, K i2 L2 S2 h2 → zc_W j p l e s m args below meth c D ad adV cA A Qf i2 L2 S2 h2) : zc_W j p l e s m args below meth c D ad adV cA A Qf i L S h := by
  intro H locs ls I
  simp only [zk_e, Bool.and_eq_true, decide_eq_true_eq, zk_s, zk_d] at he
  obtain ⟨hpc, ⟨hd, hn⟩, hf⟩ := he
  obtain ⟨q, CC, T, N, hc, hdb, hbN, hw, -⟩ := zk_f_inv hf
  obtain ⟨r, S2, rfl, hk0⟩ := zx_pr_inv hA
  obtain ⟨hB, hk⟩ := zx_tf hk0
  have ho := zx_ob_of hB
  obtain ⟨hr, hN, hcell⟩ := zc_obj (ad := ad) (cA := cA) (h := h) ho hc
  obtain ⟨hin, -, -⟩ := zc_cls hc
  subst hdb
  rw [hpc]
  refine va_get (D := D) (ci := a) (C := CC) (T := T) (N := N) C.1 C.2.1 C.2.2.2.2.2.1 hin C.2.2.2.2.1 C.2.2.2.2.2.2.2.1 I.1.1 r hcell hc b hbN (C.word hw) (fun _ z => z) (zc_fget ho.2.2) hd ?_
  exact zc_next hK hn hk (I.rest.push (zc_fld_ok I.2.2.2))
/-- a field's store, an int or a boolean -/
theorem zc_putf {n pc a b : Nat} {ty : FieldType} {x : Int} {r : Nat} {S2 : List zV} {q : Int} {CC : String} {T : u_T} {N : Nat} {H : Heap} {locs : List Loc} {ls : Array Slot} (C : zc_C j p s m args meth c D ad adV cA A) (hd : decode (zx_by j) pc = .ok (.putfield n, 3)) (hn : zx_pc j (i + 1) = pc + 3) (hc : vwCl[a]? = some (CC, T, N)) (hbN : b < N) (hw : zk_w q.toNat (.fieldLink (zc_own j) n (T b).1 (T b).2.1 (T b).2.2.1) = true) (hfin : (T b).2.2.2 = false) (hty : parseFieldDescriptor (T b).2.2.1 = some ty) (hna : narrow ty (.int (Int32.ofInt x)) = .int (Int32.ofInt x)) (hfi : fits ty (.int (Int32.ofInt x)) = true)
    (ho : zx_ob r a b) (hnt : zx_nt (zx_rf r) b = none) (hk : K (i + 1) L S2 (zx_st h r (b : Int) x)) (hK : ∀ i2 L2 S2 h2, K i2 L2 S2 h2 → zc_W j p l e s m args below meth c D ad adV cA A Qf i2 L2 S2 h2) (I : zc_I j s D ad cA A L (.inl x :: .inr (.inr r) :: S2) h H locs ls) : W p l e (zx_rm j) s m args below meth c H locs 0 0 Qf (F0 m pc ls (Value.int (Int32.ofInt x) :: Value.ref (ad r) :: S2.map (zc_v ad))) := by
  obtain ⟨hr, hN, hcell⟩ := zc_obj (ad := ad) (cA := cA) (h := h) ho hc
  obtain ⟨hin, ⟨ty0, hty0⟩, hnm⟩ := zc_cls hc
  refine va_put (D := D) (ci := a) (v := .int (Int32.ofInt x)) (ty := ty) (C := CC) (T := T) (N := N) C.1 C.2.1 C.2.2.2.2.2.1 hin ty0 hty0 hnm C.2.2.2.2.1 C.2.2.2.2.2.2.2.1 I.1.1 I.1.2.1 I.1.2.2 r hcell hc b hbN (C.word hw) (fun _ z => z) hfin hty hna hfi (by rw [zc_flen]; exact ho.2.2) hd (fun H1 locs1 hP hD hS => ?_)
  have ee : (zc_ws ad cA h).set r (ad r, .inr (a, (zc_fs ad h r).set b (.int (Int32.ofInt x)))) = zc_ws ad cA (zx_st h r (b : Int) x) :=
    zc_set hr (by rw [zc_el0 ho.1, zc_fput ho.2.2 hnt, ho.2.1]) (fun q _ hne => zc_el_of (fun k => zc_st_ne hne))
  rw [ee] at hP hD
  exact zc_next hK hn hk ⟨⟨hP, hD, hS⟩, I.2.1, I.rest.rest.2.2.1, zc_st_M I.2.2.2 I.top⟩
theorem zs_putfield {n pc len a b : Nat} {d : Int} {ts : List (Int × Nat)} (C : zc_C j p s m args meth c D ad adV cA A) (he : zk_e j i (pc, .putfield n, len, a, b, d, ts) = true) (hA : zx_act R (pc, .putfield n, len, a, b, d, ts) i L S h Q K) (hK : ∀ i2 L2 S2 h2, K i2 L2 S2 h2 → zc_W j p l e s m args below meth c D ad adV cA A Qf i2 L2 S2 h2) : zc_W j p l e s m args below meth c D ad adV cA A Qf i L S h := by
  intro H locs ls I
  simp only [zk_e, Bool.and_eq_true, decide_eq_true_eq, zk_s, zk_d] at he
  obtain ⟨hpc, ⟨hd, hn⟩, hf⟩ := he
  obtain ⟨q, CC, T, N, hc, hdb, hbN, hw, hp⟩ := zk_f_inv hf
  obtain ⟨hfin, hty⟩ := hp rfl
  obtain ⟨r, x, S2, rfl, hk0⟩ := zx_pi_inv (k := fun r x S => match zx_obB r a b && zx_noR (zx_nt (zx_rf r) b) with | true => K (i + 1) L S (zx_st h r d x) | false => False) hA
  obtain ⟨hB, hk⟩ := zx_tf hk0
  rw [Bool.and_eq_true] at hB
  have ho := zx_ob_of hB.1
  have hnt := zx_noR_of hB.2
  subst hdb
  rw [hpc]
  exact zc_putf C hd hn hc hbN hw hfin hty rfl rfl ho hnt hk hK I
theorem zs_putstatic {n pc len a b : Nat} {d : Int} {ts : List (Int × Nat)} (C : zc_C j p s m args meth c D ad adV cA A) (he : zk_e j i (pc, .putstatic n, len, a, b, d, ts) = true) (hA : zx_act R (pc, .putstatic n, len, a, b, d, ts) i L S h Q K) (hK : ∀ i2 L2 S2 h2, K i2 L2 S2 h2 → zc_W j p l e s m args below meth c D ad adV cA A Qf i2 L2 S2 h2) : zc_W j p l e s m args below meth c D ad adV cA A Qf i L S h := by
  intro H locs ls I
  simp only [zk_e, Bool.and_eq_true, decide_eq_true_eq, zk_s, zk_d] at he
  obtain ⟨hpc, ⟨hd, hn⟩, hf⟩ := he
  obtain ⟨q, CC, T, N, hc, hdb, hbN, hw, hp⟩ := zk_f_inv hf
  obtain ⟨hfin, hty⟩ := hp rfl
  obtain ⟨r, x, S2, rfl, hk0⟩ := zx_pi_inv (k := fun r x S => match zx_obB r a b && zx_noR (zx_nt (zx_rf r) b) with | true => (x = 0 ∨ x = 1) ∧ K (i + 1) L S (zx_st h r d x) | false => False) hA
  obtain ⟨hB, h01, hk⟩ := zx_tf hk0
  rw [Bool.and_eq_true] at hB
  have ho := zx_ob_of hB.1
  have hnt := zx_noR_of hB.2
  subst hdb
  rw [hpc]
  rcases h01 with rfl | rfl
  · exact zc_putf C hd hn hc hbN hw hfin hty (by decide) (by decide) ho hnt hk hK I
  · exact zc_putf C hd hn hc hbN hw hfin hty (by decide) (by decide) ho hnt hk hK I
theorem zc_ald {x : Int} {r : Nat} (hx : zc_i x) (h0 : 0 ≤ x) : Int32.ofInt (h r ((Int32.ofInt x).toNatClampNeg : Int)) = Int32.ofInt (h r x) := by
  rw [zc_cl hx, Int.toNat_of_nonneg h0]
theorem zs_iaload {pc len a b : Nat} {d : Int} {ts : List (Int × Nat)} (C : zc_C j p s m args meth c D ad adV cA A) (he : zk_e j i (pc, .iaload, len, a, b, d, ts) = true) (hA : zx_act R (pc, .iaload, len, a, b, d, ts) i L S h Q K) (hK : ∀ i2 L2 S2 h2, K i2 L2 S2 h2 → zc_W j p l e s m args below meth c D ad adV cA A Qf i2 L2 S2 h2) : zc_W j p l e s m args below meth c D ad adV cA A Qf i L S h := by
  intro H locs ls I
  simp only [zk_e, Bool.and_eq_true, decide_eq_true_eq, zk_s, zk_d] at he
  obtain ⟨hpc, hd, hn⟩ := he
  obtain ⟨r, x, S2, rfl, hk0⟩ := zx_pi_inv hA
  obtain ⟨hB, ⟨h0, h1⟩, hk⟩ := zx_tf hk0
  have ht := Nat.eq_of_beq_eq_true hB
  have hr : r < 108 := zc_r (by rw [ht]; decide)
  have hx : zc_i x := I.top
  rw [hpc]
  refine va_iald C.1 C.2.1 C.2.2.2.2.2.2.2.1 I.1.1 r 1 (zc_c1 ht) rfl (zc_in (n := zx_n r) hx h0 h1) hd ?_
  rw [zc_ald hx h0]
  exact zc_next hK hn hk (I.rest.rest.push (v := .inl _) (I.2.2.2 r x))
theorem zs_baload {pc len a b : Nat} {d : Int} {ts : List (Int × Nat)} (C : zc_C j p s m args meth c D ad adV cA A) (he : zk_e j i (pc, .baload, len, a, b, d, ts) = true) (hA : zx_act R (pc, .baload, len, a, b, d, ts) i L S h Q K) (hK : ∀ i2 L2 S2 h2, K i2 L2 S2 h2 → zc_W j p l e s m args below meth c D ad adV cA A Qf i2 L2 S2 h2) : zc_W j p l e s m args below meth c D ad adV cA A Qf i L S h := by
  intro H locs ls I
  simp only [zk_e, Bool.and_eq_true, decide_eq_true_eq, zk_s, zk_d] at he
  obtain ⟨hpc, hd, hn⟩ := he
  obtain ⟨r, x, S2, rfl, hk0⟩ := zx_pi_inv hA
  obtain ⟨hB, ⟨h0, h1⟩, hk⟩ := zx_tf hk0
  have ht := Nat.eq_of_beq_eq_true hB
  have hr : r < 108 := zc_r (by rw [ht]; decide)
  have hx : zc_i x := I.top
  rw [hpc]
  refine va_bald C.1 C.2.1 C.2.2.2.2.2.2.2.1 I.1.1 r 2 (zc_c2 ht) rfl (zc_in (n := zx_n r) hx h0 h1) hd ?_
  rw [zc_ald hx h0]
  exact zc_next hK hn hk (I.rest.rest.push (v := .inl _) (I.2.2.2 r x))
theorem zs_saload {pc len a b : Nat} {d : Int} {ts : List (Int × Nat)} (C : zc_C j p s m args meth c D ad adV cA A) (he : zk_e j i (pc, .saload, len, a, b, d, ts) = true) (hA : zx_act R (pc, .saload, len, a, b, d, ts) i L S h Q K) (hK : ∀ i2 L2 S2 h2, K i2 L2 S2 h2 → zc_W j p l e s m args below meth c D ad adV cA A Qf i2 L2 S2 h2) : zc_W j p l e s m args below meth c D ad adV cA A Qf i L S h := by
  intro H locs ls I
  simp only [zk_e, Bool.and_eq_true, decide_eq_true_eq, zk_s, zk_d] at he
  obtain ⟨hpc, hd, hn⟩ := he
  obtain ⟨r, x, S2, rfl, hk0⟩ := zx_pi_inv hA
  obtain ⟨hB, ⟨h0, h1⟩, hk⟩ := zx_tf hk0
  have ht := Nat.eq_of_beq_eq_true hB
  have hr : r < 108 := zc_r (by rw [ht]; decide)
  have hx : zc_i x := I.top
  rw [hpc]
  refine va_zald C.1 C.2.1 C.2.2.2.2.2.2.2.1 I.1.1 r 3 (zc_c3 ht) rfl (zc_in (n := zx_n r) hx h0 h1) hd ?_
  rw [zc_ald hx h0]
  exact zc_next hK hn hk (I.rest.rest.push (v := .inl _) (I.2.2.2 r x))
theorem zs_iastore {pc len a b : Nat} {d : Int} {ts : List (Int × Nat)} (C : zc_C j p s m args meth c D ad adV cA A) (he : zk_e j i (pc, .iastore, len, a, b, d, ts) = true) (hA : zx_act R (pc, .iastore, len, a, b, d, ts) i L S h Q K) (hK : ∀ i2 L2 S2 h2, K i2 L2 S2 h2 → zc_W j p l e s m args below meth c D ad adV cA A Qf i2 L2 S2 h2) : zc_W j p l e s m args below meth c D ad adV cA A Qf i L S h := by
  intro H locs ls I
  simp only [zk_e, Bool.and_eq_true, decide_eq_true_eq, zk_s, zk_d] at he
  obtain ⟨hpc, hd, hn⟩ := he
  obtain ⟨r, x, v, S2, rfl, hk0⟩ := zx_pii_inv hA
  obtain ⟨hB, ⟨h0, h1⟩, hk⟩ := zx_tf hk0
  have ht := Nat.eq_of_beq_eq_true hB
  have hr : r < 108 := zc_r (by rw [ht]; decide)
  have hx : zc_i x := I.rest.top
  rw [hpc]
  refine va_iast C.1 C.2.1 C.2.2.2.2.2.2.2.1 I.1.1 I.1.2.1 I.1.2.2 r 1 (zc_c1 ht) rfl (zc_in (n := zx_n r) hx h0 h1) hd (fun H1 locs1 hP hD hS => ?_)
  rw [zc_cl hx, zc_upd h0] at hP hD
  have ee : (zc_ws ad cA h).set r (ad r, .inl (cA 1, zx_n r, .inl (fun k : Nat => Int32.ofInt (zx_st h r x v r (k : Int))))) = zc_ws ad cA (zx_st h r x v) :=
    zc_set hr (by rw [zc_el1 ht]) (fun q _ hne => zc_el_of (fun k => zc_st_ne hne))
  rw [ee] at hP hD
  exact zc_next hK hn hk ⟨⟨hP, hD, hS⟩, I.2.1, I.rest.rest.rest.2.2.1, zc_st_M I.2.2.2 I.top⟩
theorem zc_b_nar {v : Int} (hv : -128 ≤ v ∧ v < 128) : vp_nar .byte (Int32.ofInt v) = Int32.ofInt v := by
  rw [vp_nar_byte]
  exact zc_byte hv
theorem zc_z_nar {v : Int} (hv : v = 0 ∨ v = 1) : vp_nar .boolean (Int32.ofInt v) = Int32.ofInt v := by
  rcases hv with rfl | rfl <;> decide
theorem zs_bastore {pc len a b : Nat} {d : Int} {ts : List (Int × Nat)} (C : zc_C j p s m args meth c D ad adV cA A) (he : zk_e j i (pc, .bastore, len, a, b, d, ts) = true) (hA : zx_act R (pc, .bastore, len, a, b, d, ts) i L S h Q K) (hK : ∀ i2 L2 S2 h2, K i2 L2 S2 h2 → zc_W j p l e s m args below meth c D ad adV cA A Qf i2 L2 S2 h2) : zc_W j p l e s m args below meth c D ad adV cA A Qf i L S h := by
  intro H locs ls I
  simp only [zk_e, Bool.and_eq_true, decide_eq_true_eq, zk_s, zk_d] at he
  obtain ⟨hpc, hd, hn⟩ := he
  obtain ⟨r, x, v, S2, rfl, hk0⟩ := zx_pii_inv hA
  obtain ⟨hB, ⟨h0, h1⟩, hv, hk⟩ := zx_tf hk0
  have ht := Nat.eq_of_beq_eq_true hB
  have hr : r < 108 := zc_r (by rw [ht]; decide)
  have hx : zc_i x := I.rest.top
  rw [hpc]
  refine va_bast C.1 C.2.1 C.2.2.2.2.2.2.2.1 I.1.1 I.1.2.1 I.1.2.2 r 2 (zc_c2 ht) rfl (zc_in (n := zx_n r) hx h0 h1) hd (fun H1 locs1 hP hD hS => ?_)
  rw [zc_b_nar hv, zc_cl hx, zc_upd h0] at hP hD
  have ee : (zc_ws ad cA h).set r (ad r, .inl (cA 2, zx_n r, .inl (fun k : Nat => Int32.ofInt (zx_st h r x v r (k : Int))))) = zc_ws ad cA (zx_st h r x v) :=
    zc_set hr (by rw [zc_el2 ht]) (fun q _ hne => zc_el_of (fun k => zc_st_ne hne))
  rw [ee] at hP hD
  exact zc_next hK hn hk ⟨⟨hP, hD, hS⟩, I.2.1, I.rest.rest.rest.2.2.1, zc_st_M I.2.2.2 I.top⟩
theorem zs_sastore {pc len a b : Nat} {d : Int} {ts : List (Int × Nat)} (C : zc_C j p s m args meth c D ad adV cA A) (he : zk_e j i (pc, .sastore, len, a, b, d, ts) = true) (hA : zx_act R (pc, .sastore, len, a, b, d, ts) i L S h Q K) (hK : ∀ i2 L2 S2 h2, K i2 L2 S2 h2 → zc_W j p l e s m args below meth c D ad adV cA A Qf i2 L2 S2 h2) : zc_W j p l e s m args below meth c D ad adV cA A Qf i L S h := by
  intro H locs ls I
  simp only [zk_e, Bool.and_eq_true, decide_eq_true_eq, zk_s, zk_d] at he
  obtain ⟨hpc, hd, hn⟩ := he
  obtain ⟨r, x, v, S2, rfl, hk0⟩ := zx_pii_inv hA
  obtain ⟨hB, ⟨h0, h1⟩, hv, hk⟩ := zx_tf hk0
  have ht := Nat.eq_of_beq_eq_true hB
  have hr : r < 108 := zc_r (by rw [ht]; decide)
  have hx : zc_i x := I.rest.top
  rw [hpc]
  refine va_zast C.1 C.2.1 C.2.2.2.2.2.2.2.1 I.1.1 I.1.2.1 I.1.2.2 r 3 (zc_c3 ht) rfl (zc_in (n := zx_n r) hx h0 h1) hd (fun H1 locs1 hP hD hS => ?_)
  rw [zc_z_nar hv, zc_cl hx, zc_upd h0] at hP hD
  have ee : (zc_ws ad cA h).set r (ad r, .inl (cA 3, zx_n r, .inl (fun k : Nat => Int32.ofInt (zx_st h r x v r (k : Int))))) = zc_ws ad cA (zx_st h r x v) :=
    zc_set hr (by rw [zc_el3 ht]) (fun q _ hne => zc_el_of (fun k => zc_st_ne hne))
  rw [ee] at hP hD
  exact zc_next hK hn hk ⟨⟨hP, hD, hS⟩, I.2.1, I.rest.rest.rest.2.2.1, zc_st_M I.2.2.2 I.top⟩
theorem zs_aaload {pc len a b : Nat} {d : Int} {ts : List (Int × Nat)} (C : zc_C j p s m args meth c D ad adV cA A) (he : zk_e j i (pc, .aaload, len, a, b, d, ts) = true) (hA : zx_act R (pc, .aaload, len, a, b, d, ts) i L S h Q K) (hK : ∀ i2 L2 S2 h2, K i2 L2 S2 h2 → zc_W j p l e s m args below meth c D ad adV cA A Qf i2 L2 S2 h2) : zc_W j p l e s m args below meth c D ad adV cA A Qf i L S h := by
  intro H locs ls I
  simp only [zk_e, Bool.and_eq_true, decide_eq_true_eq, zk_s, zk_d] at he
  obtain ⟨hpc, hd, hn⟩ := he
  obtain ⟨r, x, S2, rfl, hk0⟩ := zx_pi_inv hA
  obtain ⟨hB, ⟨h0, h1⟩, hk⟩ := zx_tf hk0
  have ht := zx_isR_of hB
  have hr : r < 108 := zc_r (by rcases ht with ht | ht <;> rw [ht] <;> decide)
  have hx : zc_i x := I.top
  have hsome := zc_refs r hr ht x.toNat (by unfold zx_ln at h1; unfold zx_n; omega)
  obtain ⟨q, hq⟩ := Option.isSome_iff_exists.mp hsome
  have hv : va_rf ((fun k : Nat => (zx_nt (zx_rf r) k).map ad) (Int32.ofInt x).toNatClampNeg) = .ref (ad q) := by
    show va_rf ((zx_nt (zx_rf r) (Int32.ofInt x).toNatClampNeg).map ad) = _
    rw [zc_cl hx, hq]
    rfl
  rw [hq] at hk
  rw [hpc]
  rcases ht with ht | ht
  · refine va_aldq (C := "PointMaker$Program") C.1 C.2.1 C.2.2.2.2.2.2.2.1 I.1.1 r 4 (zc_c4 ht) rfl (zc_in (n := zx_n r) hx h0 h1) hd ?_
    rw [hv]
    exact zc_next hK hn hk (I.rest.rest.push (v := .inr (.inr q)) trivial)
  · refine va_aldq (C := "PointMaker$Sheet") C.1 C.2.1 C.2.2.2.2.2.2.2.1 I.1.1 r 5 (zc_c5 ht) rfl (zc_in (n := zx_n r) hx h0 h1) hd ?_
    rw [hv]
    exact zc_next hK hn hk (I.rest.rest.push (v := .inr (.inr q)) trivial)
theorem zs_arraylength {pc len a b : Nat} {d : Int} {ts : List (Int × Nat)} (C : zc_C j p s m args meth c D ad adV cA A) (he : zk_e j i (pc, .arraylength, len, a, b, d, ts) = true) (hA : zx_act R (pc, .arraylength, len, a, b, d, ts) i L S h Q K) (hK : ∀ i2 L2 S2 h2, K i2 L2 S2 h2 → zc_W j p l e s m args below meth c D ad adV cA A Qf i2 L2 S2 h2) : zc_W j p l e s m args below meth c D ad adV cA A Qf i L S h := by
  intro H locs ls I
  simp only [zk_e, Bool.and_eq_true, decide_eq_true_eq, zk_s, zk_d] at he
  obtain ⟨hpc, hd, hn⟩ := he
  obtain ⟨r, S2, rfl, hk0⟩ := zx_pr_inv hA
  obtain ⟨hB, hk⟩ := zx_tf hk0
  have ht := zx_isA_of hB
  have hr : r < 108 := zc_r (by rcases ht with ht | ht | ht <;> rw [ht] <;> decide)
  have hle := zc_nle r hr
  have hok : zc_i (zx_ln r) := by
    unfold zc_i zx_ln
    unfold zx_n at hle
    omega
  rw [hpc]
  rcases ht with ht | ht | ht
  · refine va_alen (v := Int32.ofInt (zx_ln r)) C.1 C.2.1 C.2.2.2.2.2.2.2.1 I.1.1 r 1 (zc_c1 ht) rfl (zc_ofN _).symm hd ?_
    exact zc_next hK hn hk (I.rest.push (v := .inl _) hok)
  · refine va_alen (v := Int32.ofInt (zx_ln r)) C.1 C.2.1 C.2.2.2.2.2.2.2.1 I.1.1 r 2 (zc_c2 ht) rfl (zc_ofN _).symm hd ?_
    exact zc_next hK hn hk (I.rest.push (v := .inl _) hok)
  · refine va_alen (v := Int32.ofInt (zx_ln r)) C.1 C.2.1 C.2.2.2.2.2.2.2.1 I.1.1 r 3 (zc_c3 ht) rfl (zc_ofN _).symm hd ?_
    exact zc_next hK hn hk (I.rest.push (v := .inl _) hok)
end ZT
