/-! the builder's steps, one by one -/
theorem zb_cls : ∀ a, a < 12 → (vwCl[zb_cN a]?).map (fun q => q.1) = some (zb_own a) := by decide +kernel
section ZC
variable {j n0 : Nat} {p : Program} {l : Launch} {e : Env} {s : State} {m : MethodId} {args : Array Value} {below : List Frame} {meth : Method} {c : Code} {D : va_G} {ad0 : Nat → Nat} {cA : Nat → ClassId} {A : Nat → Prop} {i : Nat} {L : zL} {S : List zV} {X Y : zbX} {cu su : Nat} {K : Nat → zL → List zV → zbX → Nat → Nat → Option zbX} {call : Nat → List zV → zbX → Option zbX}
theorem zb_inv_inv {a b : Nat} (hA : zb_inv call j a b i L S X cu su K = some Y) : ∃ r As S2 fs w X2, S = As.reverse ++ .inr (.inr r) :: S2 ∧ As.length + 1 = b ∧ S2.length ≤ 3 ∧ X[r]? = some (0, zb_cN a, fs, w) ∧ cu + zb_mc a ≤ zb_mc j ∧ su + zb_ms a ≤ zb_ms j ∧ call a (.inr (.inr r) :: As) X = some X2 ∧ K (i + 1) L S2 X2 (cu + zb_mc a) (su + zb_ms a) = some Y := by
  unfold zb_inv at hA
  split at hA
  case h_2 => cases hA
  rename_i r As hAs
  split at hA
  case h_2 => cases hA
  rename_i cc fs w hX
  split at hA
  case isFalse => cases hA
  rename_i hc
  obtain ⟨q0, q1, q2, q3, q4⟩ := hc
  split at hA
  case h_2 => cases hA
  rename_i X2 hX2
  have e1 : S.take b = (.inr (.inr r) :: As).reverse := by rw [← hAs, List.reverse_reverse]
  have e2 : As.length + 1 = b := by
    have := congrArg List.length e1
    rw [List.length_take, List.length_reverse, List.length_cons] at this
    omega
  refine ⟨r, As, S.drop b, fs, w, X2, ?_, e2, by rw [List.length_drop]; omega, by rw [hX, q0], q3, q4, hX2, hA⟩
  have e3 := List.take_append_drop b S
  rw [e1] at e3
  have e4 : (.inr (.inr r) :: As).reverse ++ S.drop b = As.reverse ++ .inr (.inr r) :: S.drop b := by simp
  exact e3.symm.trans e4
theorem zd_inv {n pc a b : Nat} {ts : List (Int × Nat)} (st : Bool) (C : zb_C j p s m args meth c D cA A) (hcall : ∀ a As X Y, call a As X = some Y → zB a As X Y) (hd : decode (zb_by j) pc = .ok (if st then .invokespecial n else .invokevirtual n, 3)) (hn : zb_pc j (i + 1) = pc + 3) (hcc : zq_c j a (b - 1) = true) (hl : zq_l j n a ts = true) (hname : st = true → (zb_y a).name = "<init>") (hsel : st = false → Cond.selects (zb_own a) (zb_y a) (zb_y a) ∈ zc_tb ∧ a = 11)
    (hA : zb_inv call j a b i L S X cu su K = some Y) (hK : ∀ i2 L2 S2 X2 cu2 su2, K i2 L2 S2 X2 cu2 su2 = some Y → zb_W j n0 ad0 p l e s m args below meth c D cA A Y i2 L2 S2 X2 cu2 su2) {ad : Nat → Nat} {H : Heap} {locs : List Loc} {ls : Array Slot} (I : zb_I j n0 ad0 s D ad cA A L S X H locs ls) : W p l e (zb_rm j) s m args below meth c H locs cu su (MQ below (zb_Qc n0 D ad0 cA A Y) args s (zb_mc j) (zb_ms j) A) (F0 m pc ls (S.map (zc_v ad))) := by
  obtain ⟨r, As, S2, fs, w, X2, rfl, e2, q2, hX, q3, q4, hX2, hk⟩ := zb_inv_inv hA
  simp only [zq_c, Bool.and_eq_true, decide_eq_true_eq] at hcc
  obtain ⟨⟨⟨⟨⟨⟨⟨k1, k2⟩, k4⟩, k5⟩, k6⟩, k7⟩, k8⟩, k9⟩ := hcc
  have hws : ∀ w ∈ zb_wsj a, w ∈ zc_tb := by
    intro w hw
    rcases List.mem_cons.mp hw with rfl | hw
    · exact zk_w_in k1
    · exact hw
  have hokA : zb_okS X.length (.inr (.inr r) :: As) := by
    intro v hv
    refine I.2.2.1 v ?_
    rcases List.mem_cons.mp hv with rfl | hv
    · exact List.mem_append_right _ List.mem_cons_self
    · exact List.mem_append_left _ (List.mem_reverse.mpr hv)
  have hok2 : zb_okS X.length S2 := fun v hv => I.2.2.1 v (List.mem_append_right _ (List.mem_cons_of_mem _ hv))
  have hM := hcall a _ X X2 hX2 hokA I.2.2.2.1 l D ad cA A
  have hcat := zc_cats ad S2
  have htb := C.2.2.2.2.2.1
  have hfit : cu + zb_mc a ≤ (zb_rm j).cells ∧ su + zb_ms a ≤ (zb_rm j).slots := ⟨q3, q4⟩
  have hpre : ∀ U : State, U.heap = H → s.WarmedH U.vm → zb_pre D ad cA A X U := fun U hU hW => by
    refine ⟨by rw [hU]; exact I.1.1, va_K.moved hW.alike C.2.2.2.2.2.2.2.1, I.1.2.1, C.2.2.2.2.2.2.2.2.1.warm hW, fun q hq => C.2.2.2.2.2.2.2.2.2.1 q ?_⟩
    rw [hU] at hq
    exact Nat.le_trans I.1.2.2.1 hq
  have hst : (As.reverse ++ .inr (.inr r) :: S2).map (zc_v ad) = (As.map (zc_v ad)).reverse ++ Value.ref (ad r) :: S2.map (zc_v ad) := by
    simp [zc_v]
  have hl2 : As.length = b - 1 := by omega
  rw [hst]
  refine zb_back (a := a) (As := As) (aa := (Value.ref (ad r) :: As.map (zc_v ad)).toArray) hn hK hk q3 q4 ⟨I.1, I.2.1, hok2, I.2.2.2⟩ ?_
  cases st with
  | true =>
    have hp : PreS s H (va_Pc ((Sum.inr (Sum.inr r) :: As).map (zc_v ad)) (zb_pre D ad cA A X)) (.ref (ad r) :: As.map (zc_v ad)) := ⟨zb_blind, fun U hU hW => ⟨rfl, hpre U hU hW⟩⟩
    rcases zq_l_inv hl with hl | hl
    · exact va_runI (y := zb_y a) (bytes := zb_by a) (maxL := zb_ml a) (ws := zb_wsj a) (rm := zb_rm a) (Ts := zc_tb) (own := zb_own j) (n := b - 1) (nL := zb_ml j) ⟨C.1, C.2.1, C.2.2.2.1, C.2.2.2.2.1, htb⟩ hM ⟨callB_of (b - 1) htb (zc_goodIn hws) rfl rfl rfl (htb _ (zk_w_in k4)) (htb _ hl) ⟨k8, k9, k7⟩ ⟨k5, k6⟩, hname rfl, htb _ (zk_w_in k2)⟩ hp rfl (by rw [List.length_map]; exact hl2) I.2.1.1.size rfl (by show 2 * 0 + _ ≤ 8; omega) hd hfit
    · exact va_runIN (y := zb_y a) (bytes := zb_by a) (maxL := zb_ml a) (ws := zb_wsj a) (rm := zb_rm a) (Ts := zc_tb) (own := zb_own j) (host := "PointMaker") (n := b - 1) (nL := zb_ml j) ⟨C.1, C.2.1, C.2.2.2.1, C.2.2.2.2.1, htb⟩ hM ⟨va_cnB (b - 1) htb (zc_goodIn hws) rfl rfl rfl (C.2.2.2.2.2.2.2.2.1.1 _ hl) (htb _ (zk_w_in k4)) ⟨k8, k9, k7⟩ ⟨k5, k6⟩, hname rfl, htb _ (zk_w_in k2)⟩ hp rfl (by rw [List.length_map]; exact hl2) I.2.1.1.size rfl (by show 2 * 0 + _ ≤ 8; omega) hd hfit
  | false =>
    obtain ⟨hs1, hs2⟩ := hsel rfl
    have ho := zb_cls a (by omega)
    obtain ⟨q, hq⟩ : ∃ q, vwCl[zb_cN a]? = some q := by
      cases hv : vwCl[zb_cN a]? with
      | none => rw [hv] at ho; cases ho
      | some q => exact ⟨q, rfl⟩
    rw [hq] at ho
    have hcell := zb_ws_at (ad := ad) (cA := cA) X 0 r hX
    rw [Nat.zero_add, zb_el0] at hcell
    have hre := va_recv C.2.2.2.2.2.2.2.1 I.1.1 hq hcell
    have ho2 : q.1 = zb_own a := Option.some.inj ho
    rw [ho2] at hre
    have hp : PreV s H (zb_own a) (ad r) (va_Pc ((Sum.inr (Sum.inr r) :: As).map (zc_v ad)) (zb_pre D ad cA A X)) (As.map (zc_v ad)) := ⟨zb_blind, hre, fun U hU hW => ⟨rfl, hpre U hU hW⟩⟩
    rcases zq_l_inv hl with hl | hl
    · exact va_runV (y := zb_y a) (bytes := zb_by a) (maxL := zb_ml a) (ret := none) (ws := zb_wsj a) (rm := zb_rm a) (Ts := zc_tb) (own := zb_own j) (C := zb_own a) (n := b - 1) (nL := zb_ml j) ⟨C.1, C.2.1, C.2.2.2.1, C.2.2.2.2.1, htb⟩ hM ⟨callB_of (b - 1) htb (zc_goodIn hws) rfl rfl rfl (htb _ (zk_w_in k4)) (htb _ hl) ⟨k8, k9, k7⟩ ⟨k5, k6⟩, htb _ (zk_w_in k2), htb _ hs1⟩ hp rfl (by rw [List.length_map]; exact hl2) I.2.1.1.size rfl (by show 2 * 0 + _ ≤ 8; omega) hd hfit
    · exact va_runVN (y := zb_y a) (bytes := zb_by a) (maxL := zb_ml a) (ret := none) (ws := zb_wsj a) (rm := zb_rm a) (Ts := zc_tb) (own := zb_own j) (C := zb_own a) (host := "PointMaker") (n := b - 1) (nL := zb_ml j) ⟨C.1, C.2.1, C.2.2.2.1, C.2.2.2.2.1, htb⟩ hM ⟨va_cnB (b - 1) htb (zc_goodIn hws) rfl rfl rfl (C.2.2.2.2.2.2.2.2.1.1 _ hl) (htb _ (zk_w_in k4)) ⟨k8, k9, k7⟩ ⟨k5, k6⟩, htb _ (zk_w_in k2), htb _ hs1⟩ hp rfl (by rw [List.length_map]; exact hl2) I.2.1.1.size rfl (by show 2 * 0 + _ ≤ 8; omega) hd hfit
theorem zd_new {n pc a : Nat} {ts : List (Int × Nat)} (C : zb_C j p s m args meth c D cA A) (hd : decode (zb_by j) pc = .ok (.new n, 3)) (hn : zb_pc j (i + 1) = pc + 3) (hts : (match ts, vwCl[a]? with
    | [(q1, _), (q2, _), (q3, _)], some (CC, _, N) => zk_w q1.toNat (.classLink (zb_own j) n CC) && zk_w q2.toNat (.instantiable CC N) && zk_w q3.toNat (.initialized CC) && decide ((zb_df a).length = N)
    | _, _ => false) = true) (hA : (if cu + 1 ≤ zb_mc j ∧ su + (zb_df a).length ≤ zb_ms j then K (i + 1) L (.inr (.inr X.length) :: S) (X ++ [(0, a, zb_df a, [])]) (cu + 1) (su + (zb_df a).length) else none) = some Y) (hK : ∀ i2 L2 S2 X2 cu2 su2, K i2 L2 S2 X2 cu2 su2 = some Y → zb_W j n0 ad0 p l e s m args below meth c D cA A Y i2 L2 S2 X2 cu2 su2) {ad : Nat → Nat} {H : Heap} {locs : List Loc} {ls : Array Slot} (I : zb_I j n0 ad0 s D ad cA A L S X H locs ls) : W p l e (zb_rm j) s m args below meth c H locs cu su (MQ below (zb_Qc n0 D ad0 cA A Y) args s (zb_mc j) (zb_ms j) A) (F0 m pc ls (S.map (zc_v ad))) := by
  split at hA
  case isFalse => cases hA
  rename_i hcnd
  split at hts
  case h_2 => cases hts
  rename_i q1 _ q2 _ q3 _ CC T N hc
  simp only [Bool.and_eq_true, decide_eq_true_eq] at hts
  obtain ⟨⟨⟨t1, t2⟩, t3⟩, t4⟩ := hts
  have ha : a < 11 := by
    have := (List.getElem?_eq_some_iff.mp hc).1
    simpa using this
  obtain ⟨ty, hty, hdf⟩ := zb_dv a ha _ hc
  obtain ⟨hin, -, -⟩ := zc_cls hc
  refine va_new (fs := (zb_df a).map (zb_val ad)) (ci := a) (C := CC) (T := T) (N := N) C.1 C.2.1 C.2.2.2.2.2.1 hin ty hty C.2.2.2.2.1 (C.word t1) (C.word t2) (C.word t3) C.2.2.2.2.2.2.2.1 I.1.1 I.1.2.1 I.1.2.2 C.2.2.2.2.2.2.2.2.2.1 hc (hdf ad) hcnd.1 (by rw [← t4]; exact hcnd.2) hd (fun q H1 hP hD hS => ?_)
  have hok : zb_okC X.length (0, a, zb_df a, []) := by
    intro v hv
    have h0 : ∀ a, a < 11 → ∀ o ∈ zb_df a, o = none ∨ o = some (.inl 0) := by decide +kernel
    rcases h0 a ha _ hv with h | h
    · cases h
    · cases h
      exact zc_i0
  obtain ⟨I2, e1, e2⟩ := zb_grow (cc := (0, a, zb_df a, [])) I hok hP hD hS
  rw [← t4]
  have := zb_next hK hn hA hcnd.1 hcnd.2 I2
  rw [List.map_cons, e1, e2] at this
  exact this
theorem zq_na_inv {ts : List (Int × Nat)} {t : ArrayType} {b : Nat} (hts : (match ts, t with
    | [(q, _)], .int => zk_w q.toNat (.arrayClass .int) && decide (b = 1)
    | [(q, _)], .byte => zk_w q.toNat (.arrayClass .byte) && decide (b = 2)
    | [(q, _)], .boolean => zk_w q.toNat (.arrayClass .boolean) && decide (b = 3)
    | _, _ => false) = true) : (t = .int ∧ b = 1 ∧ ∃ k, zk_w k (.arrayClass .int) = true) ∨ (t = .byte ∧ b = 2 ∧ ∃ k, zk_w k (.arrayClass .byte) = true) ∨ (t = .boolean ∧ b = 3 ∧ ∃ k, zk_w k (.arrayClass .boolean) = true) := by
  split at hts
  · rename_i q _
    simp only [Bool.and_eq_true, decide_eq_true_eq] at hts
    exact Or.inl ⟨rfl, hts.2, _, hts.1⟩
  · rename_i q _
    simp only [Bool.and_eq_true, decide_eq_true_eq] at hts
    exact Or.inr (Or.inl ⟨rfl, hts.2, _, hts.1⟩)
  · rename_i q _
    simp only [Bool.and_eq_true, decide_eq_true_eq] at hts
    exact Or.inr (Or.inr ⟨rfl, hts.2, _, hts.1⟩)
  · cases hts
theorem zd_newa {t : ArrayType} {pc b : Nat} {x : Int} (C : zb_C j p s m args meth c D cA A) (hd : decode (zb_by j) pc = .ok (.newarray t, 2)) (hn : zb_pc j (i + 1) = pc + 2) (hts : (t = .int ∧ b = 1 ∧ ∃ k, zk_w k (.arrayClass .int) = true) ∨ (t = .byte ∧ b = 2 ∧ ∃ k, zk_w k (.arrayClass .byte) = true) ∨ (t = .boolean ∧ b = 3 ∧ ∃ k, zk_w k (.arrayClass .boolean) = true)) (hA : (if (0 ≤ x ∧ x ≤ 100000) ∧ cu + 1 ≤ zb_mc j ∧ su + x.toNat ≤ zb_ms j then K (i + 1) L (.inr (.inr X.length) :: S) (X ++ [(b, x.toNat, [], [])]) (cu + 1) (su + x.toNat) else none) = some Y) (hK : ∀ i2 L2 S2 X2 cu2 su2, K i2 L2 S2 X2 cu2 su2 = some Y → zb_W j n0 ad0 p l e s m args below meth c D cA A Y i2 L2 S2 X2 cu2 su2) {ad : Nat → Nat} {H : Heap} {locs : List Loc} {ls : Array Slot} (I : zb_I j n0 ad0 s D ad cA A L (.inl x :: S) X H locs ls) : W p l e (zb_rm j) s m args below meth c H locs cu su (MQ below (zb_Qc n0 D ad0 cA A Y) args s (zb_mc j) (zb_ms j) A) (F0 m pc ls (Value.int (Int32.ofInt x) :: S.map (zc_v ad))) := by
  split at hA
  case isFalse => cases hA
  rename_i hcnd
  obtain ⟨⟨x0, x1⟩, c1, c2⟩ := hcnd
  have hx : zc_i x := by unfold zc_i; omega
  have hneg : ¬ Int32.ofInt x < 0 := fun z => by have := (zc_lt0 hx).mp z; omega
  have hok : ∀ b, zb_okC X.length (b, x.toNat, [], []) := fun b v hv => by cases hv
  have fin : ∀ (b : Nat) (ty : FieldType) (el : va_E), el = zb_el ad cA (b, x.toNat, [], []) → K (i + 1) L (.inr (.inr X.length) :: S) (X ++ [(b, x.toNat, [], [])]) (cu + 1) (su + x.toNat) = some Y → ∀ (q : Nat) (H1 : Heap), va_P D vwCl (zb_ws ad cA 0 X ++ [(q, el)]) H1 → va_D A (zb_ws ad cA 0 X ++ [(q, el)]) → va_S A s.heap H1 locs → W p l e (zb_rm j) s m args below meth c H1 locs (cu + 1) (su + x.toNat) (MQ below (zb_Qc n0 D ad0 cA A Y) args s (zb_mc j) (zb_ms j) A) (F0 m (pc + 2) ls (.ref q :: S.map (zc_v ad))) := by
    intro b ty el he hA q H1 hP hD hS
    subst he
    obtain ⟨I2, e1, e2⟩ := zb_grow (cc := (b, x.toNat, [], [])) I.rest (hok b) hP hD hS
    have := zb_next hK hn hA c1 c2 I2
    rw [List.map_cons, e1, e2] at this
    exact this
  have f0 : (fun k : Nat => Int32.ofInt (zb_fn [] k)) = (fun _ => (0 : Int32)) := rfl
  rcases hts with ⟨rfl, rfl, k, t1⟩ | ⟨rfl, rfl, k, t1⟩ | ⟨rfl, rfl, k, t1⟩
  · refine va_newa (atype := .int) (ty := .int) (a0 := (x.toNat, .inl (fun _ => 0))) C.1 C.2.1 (C.word t1) rfl C.2.2.2.2.2.2.2.1 I.1.1 I.1.2.1 I.1.2.2 C.2.2.2.2.2.2.2.2.2.1 (fun _ => rfl) hneg (zc_cl hx) (by show _ * 4 ≤ _; omega) c1 c2 hd (fun q ca H1 hK2 hP hD hS => ?_)
    have hca := zb_sameA (t := 1) C.2.2.2.2.2.2.2.1 rfl (hK2.2 6 _ rfl).2
    subst hca
    exact fin 1 .int _ rfl hA q H1 hP hD hS
  · refine va_newa (atype := .byte) (ty := .byte) (a0 := (x.toNat, .inl (fun _ => 0))) C.1 C.2.1 (C.word t1) rfl C.2.2.2.2.2.2.2.1 I.1.1 I.1.2.1 I.1.2.2 C.2.2.2.2.2.2.2.2.2.1 (fun _ => rfl) hneg (zc_cl hx) (by show _ * 1 ≤ _; omega) c1 c2 hd (fun q ca H1 hK2 hP hD hS => ?_)
    have hca := zb_sameA (t := 2) C.2.2.2.2.2.2.2.1 rfl (hK2.2 6 _ rfl).2
    subst hca
    exact fin 2 .byte _ rfl hA q H1 hP hD hS
  · refine va_newa (atype := .boolean) (ty := .boolean) (a0 := (x.toNat, .inl (fun _ => 0))) C.1 C.2.1 (C.word t1) rfl C.2.2.2.2.2.2.2.1 I.1.1 I.1.2.1 I.1.2.2 C.2.2.2.2.2.2.2.2.2.1 (fun _ => rfl) hneg (zc_cl hx) (by show _ * 1 ≤ _; omega) c1 c2 hd (fun q ca H1 hK2 hP hD hS => ?_)
    have hca := zb_sameA (t := 3) C.2.2.2.2.2.2.2.1 rfl (hK2.2 6 _ rfl).2
    subst hca
    exact fin 3 .boolean _ rfl hA q H1 hP hD hS
theorem zd_anew {n pc b : Nat} {ts : List (Int × Nat)} {x : Int} (C : zb_C j p s m args meth c D cA A) (hd : decode (zb_by j) pc = .ok (.anewarray n, 3)) (hn : zb_pc j (i + 1) = pc + 3) (hts : (match ts with
    | [(q, _)] => (zk_w q.toNat (.classLink (zb_own j) n "PointMaker$Program") && decide (b = 4)) || (zk_w q.toNat (.classLink (zb_own j) n "PointMaker$Sheet") && decide (b = 5))
    | _ => false) = true) (hA : (if (0 ≤ x ∧ x ≤ 100000) ∧ cu + 1 ≤ zb_mc j ∧ su + x.toNat ≤ zb_ms j then K (i + 1) L (.inr (.inr X.length) :: S) (X ++ [(b, x.toNat, List.replicate x.toNat none, [])]) (cu + 1) (su + x.toNat) else none) = some Y) (hK : ∀ i2 L2 S2 X2 cu2 su2, K i2 L2 S2 X2 cu2 su2 = some Y → zb_W j n0 ad0 p l e s m args below meth c D cA A Y i2 L2 S2 X2 cu2 su2) {ad : Nat → Nat} {H : Heap} {locs : List Loc} {ls : Array Slot} (I : zb_I j n0 ad0 s D ad cA A L (.inl x :: S) X H locs ls) : W p l e (zb_rm j) s m args below meth c H locs cu su (MQ below (zb_Qc n0 D ad0 cA A Y) args s (zb_mc j) (zb_ms j) A) (F0 m pc ls (Value.int (Int32.ofInt x) :: S.map (zc_v ad))) := by
  split at hA
  case isFalse => cases hA
  rename_i hcnd
  obtain ⟨⟨x0, x1⟩, c1, c2⟩ := hcnd
  have hx : zc_i x := by unfold zc_i; omega
  have hneg : ¬ Int32.ofInt x < 0 := fun z => by have := (zc_lt0 hx).mp z; omega
  have hok : ∀ b, zb_okC X.length (b, x.toNat, List.replicate x.toNat none, []) := fun b v hv => by have := List.eq_of_mem_replicate hv; cases this
  have rfn : zb_ref ad (List.replicate x.toNat none) = fun _ => none := by
    funext k
    unfold zb_ref
    split
    · rename_i q hq
      have := List.eq_of_mem_replicate (List.mem_of_getElem? hq)
      cases this
    · rfl
  have fin : ∀ (b : Nat) (el : va_E), el = zb_el ad cA (b, x.toNat, List.replicate x.toNat none, []) → K (i + 1) L (.inr (.inr X.length) :: S) (X ++ [(b, x.toNat, List.replicate x.toNat none, [])]) (cu + 1) (su + x.toNat) = some Y → ∀ (q : Nat) (H1 : Heap), va_P D vwCl (zb_ws ad cA 0 X ++ [(q, el)]) H1 → va_D A (zb_ws ad cA 0 X ++ [(q, el)]) → va_S A s.heap H1 locs → W p l e (zb_rm j) s m args below meth c H1 locs (cu + 1) (su + x.toNat) (MQ below (zb_Qc n0 D ad0 cA A Y) args s (zb_mc j) (zb_ms j) A) (F0 m (pc + 3) ls (.ref q :: S.map (zc_v ad))) := by
    intro b el he hA q H1 hP hD hS
    subst he
    obtain ⟨I2, e1, e2⟩ := zb_grow (cc := (b, x.toNat, List.replicate x.toNat none, [])) I.rest (hok b) hP hD hS
    have := zb_next hK hn hA c1 c2 I2
    rw [List.map_cons, e1, e2] at this
    exact this
  split at hts
  · rename_i q _
    simp only [Bool.or_eq_true, Bool.and_eq_true, decide_eq_true_eq] at hts
    rcases hts with ⟨t1, rfl⟩ | ⟨t1, rfl⟩
    · refine va_newq (C := "PointMaker$Program") C.1 C.2.1 C.2.2.2.2.1 (C.word t1) C.2.2.2.2.2.2.2.2.1.2.1 C.2.2.2.2.2.2.2.1 I.1.1 I.1.2.1 I.1.2.2 C.2.2.2.2.2.2.2.2.2.1 hneg (zc_cl hx) (by omega) c1 c2 hd (fun q ca H1 hK2 hP hD hS => ?_)
      have hca := zb_sameA (t := 4) C.2.2.2.2.2.2.2.1 rfl (hK2.2 6 _ rfl).2
      subst hca
      exact fin 4 _ (by show _ = Sum.inl (cA 4, x.toNat, Sum.inr (Sum.inr (Sum.inr (Sum.inr (zb_ref ad (List.replicate x.toNat none)))))); rw [rfn]) hA q H1 hP hD hS
    · refine va_newq (C := "PointMaker$Sheet") C.1 C.2.1 C.2.2.2.2.1 (C.word t1) C.2.2.2.2.2.2.2.2.1.2.2 C.2.2.2.2.2.2.2.1 I.1.1 I.1.2.1 I.1.2.2 C.2.2.2.2.2.2.2.2.2.1 hneg (zc_cl hx) (by omega) c1 c2 hd (fun q ca H1 hK2 hP hD hS => ?_)
      have hca := zb_sameA (t := 5) C.2.2.2.2.2.2.2.1 rfl (hK2.2 6 _ rfl).2
      subst hca
      exact fin 5 _ (by show _ = Sum.inl (cA 5, x.toNat, Sum.inr (Sum.inr (Sum.inr (Sum.inr (zb_ref ad (List.replicate x.toNat none)))))); rw [rfn]) hA q H1 hP hD hS
  · cases hts
end ZC
