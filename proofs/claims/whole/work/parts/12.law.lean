/-! THE CLAIM OUT OF ONE WALK OF THE LAW'S BODY. Your part is whole_start (and what it stands on); all else here is the same for every law, but numbers. -/
def R_law : String := "PointMakerLaw"
def lw_P (b : Addr) (xs : List Int32) (args : Array Value) (s : State) : Prop := args = #[.ref b] ∧ s.IntsAt b xs ∧ xs.length ≤ 2560 ∧ (Jvm.Cond.and given_1 narrow_1).before args s = true
def lw_Q (_ : Array Value) (s : State) (o : Outcome) (t : State) : Prop := o = .returned (some (.int 1)) ∧ Framed s o t [] 600000 7302250
def lw_Z (below : List Frame) (a : Array Value) (s : State) : State → Prop := fun t => ∃ o, t.status = .running ∧ Ended t below o ∧ lw_Q a s o t
/-- the law's own end, with 1 on the stack, nothing written that was there before, its room as the claim has it -/
theorem lw_ret {p : Program} {l : Launch} {e : Env} {s : State} {m : MethodId} {below : List Frame} {meth : Method} {c : Code} {b : Nat} (hx : p.tables.exec = Jvm.exec) (hb : c.code = code) (hr : meth.sig.returnType = ret) (hlocks : meth.locks = false) {pc : Nat} {H : Heap} {ls : Array Slot} (hdg : decode code pc = .ok (.ireturn, 1)) : W p l e room_1 s m #[Value.ref b] below meth c H [] 600000 7302250 (lw_Z below #[Value.ref b] s) (F0 m pc ls [.int 1]) := by
  intro T hT X
  obtain ⟨fs, hret, hrun, hended, hW, hframe⟩ := X.leave (v := some (.int 1)) (hlocks := hlocks) (fun h => by rw [hr] at h; cases h)
  have hmeth' : T.vm.method? m = some meth := X.method'
  refine ⟨T.setFrames fs, ?_, .returned (some (.int 1)), hrun, hended, rfl, ⟨_, rfl⟩, hW, hframe⟩
  jvm_step X.here [X.here.top, hx, hb, hdg, hmeth', hr, ret, narrow_b1]
  (try refine ⟨rfl, ?_⟩); (try refine ⟨rfl, ?_⟩)
  first | (intro acts; rw [hret _ acts rfl rfl rfl]) | rw [hret _ _ rfl rfl rfl]
  exact Steps.refl _
/-- what holds at the law's entry: the machine, the code, the tables' words (any of lw_tbl by 'hts w (by decide +kernel)'), the script of L ints xs at the cell b, what the Statement gives of the start (any of its parts by flat_of_before) -/
def lw_At (p : Program) (s : State) (m : MethodId) (meth : Method) (c : Code) (b L : Nat) (xs : Nat → Int32) : Prop :=
  p.tables.exec = Jvm.exec ∧ c.code = code ∧ meth.sig.returnType = ret ∧ c.maxLocals = 4 ∧ s.vm.findClass R_law = some m.cls ∧ (∀ w ∈ lw_tbl, w.before #[Value.ref b] s = true) ∧ va_X b L xs s s.heap ∧ b < s.heap.size ∧ meth.locks = false ∧ (Jvm.Cond.and given_1 narrow_1).before #[Value.ref b] s = true
/-! THE LAW'S WALK, over any invariant -/
/-- a call of the class, then the same of the reference: the same answer, and the invariant again -/
def zPair (Inv : zM → Prop) (jC jM n : Nat) : Prop := ∀ as : List Int, as.length = n → ∀ h, Inv h → zR jC (.inr (.inr 0) :: as.map Sum.inl) h (fun rv h1 => zR jM (.inr (.inr 81) :: as.map Sum.inl) h1 (fun rv2 h2 => (∃ x, rv = some (.inl x) ∧ rv2 = some (.inl x)) ∧ Inv h2))
theorem zl_sub5 {L : Nat} (h : L ≤ 2560) : (Int32.ofNat L - 5).toInt = (L : Int) - 5 := by
  have e : (Int32.ofNat L).toInt = (L : Int) := nI_toInt (by omega)
  rw [Int32.toInt_sub, e]
  have e2 : (5 : Int32).toInt = 5 := by decide
  rw [e2, Int.bmod_eq_of_le (by omega) (by omega)]
def zl_d (pc : Nat) (ins : Instr) (len : Nat) : Bool := decide (decode code pc = .ok (ins, len))
/-- the pushes of n arguments -/
def zl_pk (pc : Nat) : Nat → Bool
  | 0 => true
  | k + 1 => zl_pk pc k && zl_d (pc + 5 * k) (.aload_n 0) 1 && zl_d (pc + 5 * k + 1) (.iload_n 3) 1 && zl_d (pc + 5 * k + 2) (.iconst (k + 1)) 1 && zl_d (pc + 5 * k + 3) .iadd 1 && zl_d (pc + 5 * k + 4) .iaload 1
/-- a callee of the law -/
def zl_c (a n : Nat) : Bool :=
  decide (a < 205) && zk_w (zx_mt a).2.2.2.2.2.2.2.1 (.code (zx_y a) (zx_by a) (zx_ml a) (zx_rt a)) && zk_w (zx_mt a).2.2.2.2.2.2.2.2.1 (.instanceMethod (zx_y a)) && zk_w (zx_mt a).2.2.2.2.2.2.2.2.2.1 (.selects (zc_own a) (zx_y a) (zx_y a)) && zk_w (zx_mt a).2.2.2.2.2.2.2.2.2.2 (.initialized (zc_own a)) &&
  decide ((zx_rm a).frames + 1 ≤ room_1.frames) && decide (8 + (zx_ml a + 11) + (zx_rm a).locals ≤ room_1.locals) && decide ((parseMethodDescriptor (zx_y a).desc).map (fun d => d.parameters.length) = some n) && decide (zc_own a ≠ "java/lang/invoke/MethodHandle") && decide (zc_own a ≠ "java/lang/invoke/VarHandle")
/-- a case of the law: where it begins, how many arguments, the class's method (link, its word), the reference's -/
def zl_ck (pc n jC iC pC jM iM pM : Nat) : Bool :=
  zl_d pc (.aload_n 1) 1 && zl_pk (pc + 1) n && zl_d (pc + 1 + 5 * n) (.invokevirtual iC) 3 && zl_d (pc + 4 + 5 * n) (.aload_n 2) 1 && zl_pk (pc + 5 + 5 * n) n && zl_d (pc + 5 + 10 * n) (.invokevirtual iM) 3 && zl_d (pc + 8 + 10 * n) (.if_icmp .eq (1004 - ((pc : Int) + 8 + 10 * n))) 3 && zk_w pC (.methodLink R_law iC (zx_y jC)) && zk_w pM (.methodLink R_law iM (zx_y jM)) && zl_c jC n && zl_c jM n && decide (n ≤ 4) && zx_rcv jC 0 && zx_rcv jM 81 && !zx_sts.contains jC && !zx_sts.contains jM
theorem dl_18 : decode code 18 = .ok (.iload_n 3, 1) := by decide +kernel
theorem dl_19 : decode code 19 = .ok (.aload_n 0, 1) := by decide +kernel
theorem dl_20 : decode code 20 = .ok (.arraylength, 1) := by decide +kernel
theorem dl_21 : decode code 21 = .ok (.iconst 5, 1) := by decide +kernel
theorem dl_22 : decode code 22 = .ok (.isub, 1) := by decide +kernel
theorem dl_23 : decode code 23 = .ok (.if_icmp .gt 987, 3) := by decide +kernel
theorem dl_26 : decode code 26 = .ok (.aload_n 0, 1) := by decide +kernel
theorem dl_27 : decode code 27 = .ok (.iload_n 3, 1) := by decide +kernel
theorem dl_28 : decode code 28 = .ok (.iaload, 1) := by decide +kernel
theorem dl_29 : decode code 29 = .ok (.bipush 31, 2) := by decide +kernel
theorem dl_31 : decode code 31 = .ok (.iand, 1) := by decide +kernel
theorem dl_32 : decode code 32 = .ok (.tableswitch 972 0 27 #[128, 151, 174, 187, 200, 223, 256, 289, 322, 345, 378, 411, 454, 487, 540, 573, 586, 599, 622, 665, 708, 751, 774, 797, 840, 883, 936, 949], 128) := by decide +kernel
theorem dl_1004 : decode code 1004 = .ok (.iinc 3 5, 3) := by decide +kernel
theorem dl_1007 : decode code 1007 = .ok (.goto (-989), 3) := by decide +kernel
theorem dl_1010 : decode code 1010 = .ok (.iconst 1, 1) := by decide +kernel
theorem dl_1011 : decode code 1011 = .ok (.ireturn, 1) := by decide +kernel
section ZL
variable {p : Program} {l : Launch} {e : Env} {s : State} {m : MethodId} {below : List Frame} {meth : Method} {c : Code} {D : va_G} {ad adV : Nat → Nat} {cA : Nat → ClassId} {b Ln : Nat} {xs : Nat → Int32} {Q : State → Prop} {cells slots : Nat}
/-- what stands all through the law's loop -/
def zl_C (p : Program) (l : Launch) (s : State) (m : MethodId) (meth : Method) (c : Code) (D : va_G) (ad adV : Nat → Nat) (cA : Nat → ClassId) (b Ln : Nat) (xs : Nat → Int32) : Prop :=
  p.tables.exec = Jvm.exec ∧ c.code = code ∧ meth.sig.returnType = ret ∧ c.maxLocals = 4 ∧ s.vm.findClass R_law = some m.cls ∧ (∀ w ∈ lw_tbl, w.before #[Value.ref b] s = true) ∧ va_X b Ln xs s s.heap ∧ b < s.heap.size ∧ meth.locks = false ∧ va_K D vwCl (zc_tys cA) s ∧ Ln ≤ 2560 ∧ zc_X ad adV (fun q => s.heap.size ≤ q) s s.heap
def zl_I (s : State) (D : va_G) (ad : Nat → Nat) (cA : Nat → ClassId) (h : zM) (H : Heap) (locs : List Loc) : Prop :=
  (va_P D vwCl (zc_ws ad cA h) H ∧ va_D (fun q => s.heap.size ≤ q) (zc_ws ad cA h) ∧ va_S (fun q => s.heap.size ≤ q) s.heap H locs) ∧ zc_M h
def zl_vals (xs : Nat → Int32) (i : Nat) : Nat → List Value
  | 0 => []
  | k + 1 => zl_vals xs i k ++ [.int (xs (i + (k + 1)))]
def zl_ints (xs : Nat → Int32) (i : Nat) : Nat → List Int
  | 0 => []
  | k + 1 => zl_ints xs i k ++ [(xs (i + (k + 1))).toInt]
theorem zl_ints_len (xs : Nat → Int32) (i : Nat) : ∀ n, (zl_ints xs i n).length = n
  | 0 => rfl
  | n + 1 => by simp [zl_ints, zl_ints_len xs i n]
theorem zl_ints_v (xs : Nat → Int32) (i : Nat) : ∀ n, ((zl_ints xs i n).map Sum.inl).map (zc_v ad) = zl_vals xs i n
  | 0 => rfl
  | n + 1 => by
    simp only [zl_ints, zl_vals, List.map_append, zl_ints_v xs i n]
    simp [zc_v]
theorem zl_ints_ok (xs : Nat → Int32) (i : Nat) : ∀ n, zc_okS ((zl_ints xs i n).map Sum.inl)
  | 0 => fun v hv => by cases hv
  | n + 1 => by
    intro v hv
    simp only [zl_ints, List.map_append, List.mem_append] at hv
    rcases hv with hv | hv
    · exact zl_ints_ok xs i n v hv
    · simp at hv
      subst hv
      exact zc_ri _
theorem zl_args (C : zl_C p l s m meth c D ad adV cA b Ln xs) {h : zM} {H : Heap} {locs : List Loc} {ls : Array Slot} (I : zl_I s D ad cA h H locs) {i : Nat} (hi : i + 5 ≤ Ln) (hl : lv_has ls 4 [(0, .ref b), (1, .ref (ad 0)), (2, .ref (ad 81)), (3, .int (nI i))]) {pc : Nat} {rest : List Value} : ∀ (n : Nat), n ≤ 4 → zl_pk pc n = true → W p l e room_1 s m #[Value.ref b] below meth c H locs cells slots Q (F0 m (pc + 5 * n) ls ((zl_vals xs i n).reverse ++ rest)) → W p l e room_1 s m #[Value.ref b] below meth c H locs cells slots Q (F0 m pc ls rest)
  | 0, _, _, k => k
  | n + 1, hn, hp, k => by
    simp only [zl_pk, zl_d, Bool.and_eq_true, decide_eq_true_eq] at hp
    obtain ⟨⟨⟨⟨⟨h0, h1⟩, h2⟩, h3⟩, h4⟩, h5⟩ := hp
    have hLn := C.2.2.2.2.2.2.2.2.2.2.1
    refine zl_args C I hi hl n (by omega) h0 ?_
    refine lv_aload_n C.1 C.2.1 h1 rfl (lv_at hl 0 rfl) ?_
    refine lv_iload_n C.1 C.2.1 h2 rfl (lv_at hl 3 rfl) ?_
    refine lv_iconst (v := nI (n + 1)) C.1 C.2.1 h3 (zc_ofN (n + 1)) ?_
    refine lv_iadd C.1 C.2.1 h4 ?_
    rw [nI_add]
    refine va_sld C.1 C.2.1 C.2.2.2.2.2.2.1 C.2.2.2.2.2.2.2.1 (Nat.not_le.mpr C.2.2.2.2.2.2.2.1) I.1.2.2 (vp_in_nI (by omega) (by omega)) h5 ?_
    rw [nI_clamp (by omega)]
    rw [show pc + 5 * (n + 1) = pc + 5 * n + 4 + 1 by omega] at k
    simpa [zl_vals] using k
theorem zl_call {a r idx n pc kw : Nat} {as : List Int} {h : zM} {H : Heap} {locs : List Loc} {ls : Array Slot} {Qz : zQ} {rest : List Value} (C : zl_C p l s m meth c D ad adV cA b Ln xs) (I : zl_I s D ad cA h H locs) (hls : ls.size = 4) (hok : zc_okS (as.map Sum.inl)) (hlen : as.length = n) (hR : zR a (.inr (.inr r) :: as.map Sum.inl) h Qz) (hst : zx_sts.contains a = false) (hc : zl_c a n = true) (hw : zk_w kw (.methodLink R_law idx (zx_y a)) = true) (hrest : (rest.map fun v => v.category).sum ≤ 8) (hcl : cells ≤ room_1.cells) (hsl : slots ≤ room_1.slots) (hd : decode code pc = .ok (.invokevirtual idx, 3))
    (kk : ∀ (rv : Option zV) (h2 : zM) (H1 : Heap) (locs1 : List Loc), Qz rv h2 → zc_okO rv → zl_I s D ad cA h2 H1 locs1 → W p l e room_1 s m #[Value.ref b] below meth c H1 locs1 cells slots Q (F0 m (pc + 3) ls ((rv.map (zc_v ad)).toList ++ rest))) : W p l e room_1 s m #[Value.ref b] below meth c H locs cells slots Q (F0 m pc ls (((as.map Sum.inl).map (zc_v ad)).reverse ++ Value.ref (ad r) :: rest)) := by
  obtain ⟨hrc, hM⟩ := hR
  have hM := hM (List.forall_mem_cons.mpr ⟨trivial, hok⟩) I.2 l D ad adV cA (fun q => s.heap.size ≤ q)
  have htb : ∀ w ∈ zc_tb, w.before #[Value.ref b] s = true := fun w hw => C.2.2.2.2.2.1 w (List.mem_filter.mp hw).1
  simp only [zl_c, Bool.and_eq_true, decide_eq_true_eq] at hc
  obtain ⟨⟨⟨⟨⟨⟨⟨⟨⟨k0, k1⟩, k2⟩, k3⟩, k4⟩, k5⟩, k6⟩, k7⟩, k8⟩, k9⟩ := hc
  have hws : ∀ w ∈ zc_wsj a, w ∈ zc_tb := by
    intro w hw
    rcases List.mem_cons.mp hw with rfl | hw
    · exact zk_w_in k1
    · exact hw
  rcases hrc with hrc | ⟨r2, As2, er, hrc⟩
  · rw [hst] at hrc; cases hrc
  have er1 : r = r2 := by simpa using (List.cons.inj er).1
  subst er1
  have hre : ∃ cellB : Cell, H[ad r]? = some cellB ∧ cellB.vm.isStatics = false ∧ s.vm.findClass (zc_own a) = some cellB.cls := by
    simp only [zx_rcv, Bool.or_eq_true, Bool.and_eq_true, beq_iff_eq, decide_eq_true_eq] at hrc
    rcases hrc with ⟨g1, g2⟩ | ⟨⟨g1, g2⟩, g3⟩
    · have hr : r < 108 := zc_r (by rw [g1]; decide)
      have hs := zc_shp r hr g1
      have hne : zx_cN a ≠ 99 := by
        intro z
        rw [g2, z] at hs
        exact absurd hs (by simp)
      have ho := zc_own_cN a k0 hne
      rw [← g2] at ho
      obtain ⟨q, hq⟩ : ∃ q, vwCl[zx_ci r]? = some q := by
        cases hv : vwCl[zx_ci r]? with
        | none => rw [hv] at ho; cases ho
        | some q => exact ⟨q, rfl⟩
      rw [hq] at ho
      have hcc : (zc_ws ad cA h)[r]? = some (ad r, .inr (zx_ci r, zc_fs ad h r)) := by rw [zc_at ad cA h hr, zc_el0 g1]
      have := va_recv C.2.2.2.2.2.2.2.2.2.1 I.1.1 hq hcc
      rw [← Option.some.inj ho]
      exact this
    · rw [zc_own_S a k0 g1]
      have := vk_recv (i := r - 1000) C.2.2.2.2.2.2.2.2.2.2.2.2.2.1 (by omega) I.1.2.2
      have er : 1000 + (r - 1000) = r := by omega
      simp only [er] at this
      exact this
  have hp : PreV s H (zc_own a) (ad r) (va_Pc ((Sum.inr (Sum.inr r) :: as.map Sum.inl).map (zc_v ad)) (zc_pre D ad adV cA (fun q => s.heap.size ≤ q) h)) ((as.map Sum.inl).map (zc_v ad)) := by
    refine ⟨zc_blind, hre, fun U hU hW => ⟨rfl, by rw [hU]; exact I.1.1, va_K.moved hW.alike C.2.2.2.2.2.2.2.2.2.1, I.1.2.1, ?_, fun q hq => ?_⟩⟩
    · rw [hU]
      exact (C.2.2.2.2.2.2.2.2.2.2.2.warm hW).kept I.1.2.2.2.1
    · rw [hU] at hq
      exact Nat.le_trans I.1.2.2.1 hq
  have hrun := va_runV (l := l) (e := e) (p := p) (R := room_1) (below := below) (meth := meth) (locs := locs) (cells := cells) (slots := slots) (g := F0 m pc ls (((as.map Sum.inl).map (zc_v ad)).reverse ++ Value.ref (ad r) :: rest)) (rest := rest) (y := zx_y a) (bytes := zx_by a) (maxL := zx_ml a) (ret := zx_rt a) (ws := zc_wsj a) (rm := zx_rm a) (Ts := zc_tb) (own := R_law) (C := zc_own a) (n := n) (nL := 4) ⟨C.1, C.2.1, C.2.2.2.1, C.2.2.2.2.1, htb⟩ hM
    ⟨callB_of n htb (zc_goodIn hws) rfl rfl rfl (htb _ (zk_w_in k4)) (htb _ (zk_w_in hw)) ⟨k8, k9, k7⟩ ⟨k5, k6⟩, htb _ (zk_w_in k2), htb _ (zk_w_in k3)⟩ hp rfl (by rw [List.length_map, List.length_map]; exact hlen) hls rfl (by show 2 * 0 + _ ≤ 8; omega) hd ⟨hcl, hsl⟩
  intro T hT X
  obtain ⟨v, st₀, t, T', L, h0, X', hL, e1, e2, ⟨⟨rv, h2, hv, ⟨hp1, hp2, hp3⟩, hb⟩, hz, hk⟩, st⟩ := hrun T hT X
  cases hv
  rw [h0] at hz hk
  have hS := I.1.2.2
  obtain ⟨t2, a1, b1⟩ := kk rv h2 T'.heap (locs ++ L) hp1 hp2 ⟨⟨by rw [e1]; exact hb.1, hb.2.2,
    ⟨Nat.le_trans hS.1 (by rw [e1]; exact hz), fun q h1 h2 => by rw [e1, hk q (Nat.lt_of_lt_of_le h1 hS.1) h2]; exact hS.2.1 q h1 h2, fun q hq => by
      rcases List.mem_append.mp hq with h | h
      · exact hS.2.2 q h
      · exact hL q h⟩⟩, hp3⟩ T' rfl X'
  exact ⟨t2, st t2 a1, b1⟩
theorem zl_case {Inv : zM → Prop} {pc n jC iC pC jM iM pM : Nat} (hck : zl_ck pc n jC iC pC jM iM pM = true) (hp : zPair Inv jC jM n) (C : zl_C p l s m meth c D ad adV cA b Ln xs) {i : Nat} (hi : i + 5 ≤ Ln) {h : zM} (hI : Inv h) {H : Heap} {locs : List Loc} {ls : Array Slot} (I : zl_I s D ad cA h H locs) (hl : lv_has ls 4 [(0, .ref b), (1, .ref (ad 0)), (2, .ref (ad 81)), (3, .int (nI i))])
    (again : ∀ (h2 : zM), Inv h2 → ∀ (H2 : Heap) (locs2 : List Loc), zl_I s D ad cA h2 H2 locs2 → W p l e room_1 s m #[Value.ref b] below meth c H2 locs2 600000 7302250 (lw_Z below #[Value.ref b] s) (F0 m 1004 ls [])) : W p l e room_1 s m #[Value.ref b] below meth c H locs 600000 7302250 (lw_Z below #[Value.ref b] s) (F0 m pc ls []) := by
  simp only [zl_ck, Bool.and_eq_true, decide_eq_true_eq, Bool.not_eq_true', zl_d] at hck
  obtain ⟨⟨⟨⟨⟨⟨⟨⟨⟨⟨⟨⟨⟨⟨⟨q1, q2⟩, q3⟩, q4⟩, q5⟩, q6⟩, q7⟩, q8⟩, q9⟩, q10⟩, q11⟩, q12⟩, q13⟩, q14⟩, q15⟩, q16⟩ := hck
  refine lv_aload_n C.1 C.2.1 q1 rfl (lv_at hl 1 rfl) ?_
  refine zl_args C I hi hl n q12 q2 ?_
  have ev := zl_ints_v (ad := ad) xs i n
  have hlen := zl_ints_len xs i n
  have hok := zl_ints_ok xs i n
  rw [← ev]
  refine zl_call (rest := []) C I hl.1 hok hlen (hp _ hlen h hI) q15 q10 q8 (by simp) (Nat.le_refl _) (Nat.le_refl _) q3 (fun rv h1 H1 locs1 hq hrv I1 => ?_)
  rw [show pc + 1 + 5 * n + 3 = pc + 4 + 5 * n by omega]
  refine lv_aload_n C.1 C.2.1 q4 rfl (lv_at hl 2 rfl) ?_
  rw [show pc + 4 + 5 * n + 1 = pc + 5 + 5 * n by omega]
  refine zl_args C I1 hi hl n q12 q5 ?_
  rw [← ev]
  rw [show pc + 5 + 5 * n + 5 * n = pc + 5 + 10 * n by omega]
  have hcat : (((rv.map (zc_v ad)).toList ++ []).map fun v : Value => v.category).sum ≤ 8 := by
    cases rv with
    | none => simp
    | some v => rcases v with v | (v | v) <;> simp [zc_v, Value.category]
  refine zl_call C I1 hl.1 hok hlen hq q16 q11 q9 hcat (Nat.le_refl _) (Nat.le_refl _) q6 (fun rv2 h2 H2 locs2 hq2 hrv2 I2 => ?_)
  obtain ⟨⟨x, rfl, rfl⟩, hI2⟩ := hq2
  rw [show pc + 5 + 10 * n + 3 = pc + 8 + 10 * n by omega]
  refine lv_icmp_eq (x := Int32.ofInt x) (y := Int32.ofInt x) (tgt := 1004) (rest := []) C.1 C.2.1 q7 (by omega) (fun _ => ?_) (fun z => absurd rfl z)
  exact again h2 hI2 H2 locs2 I2

/-- every call of the law: its case, where it stands, how many arguments, the class's method, the reference's -/
def zl_cases : List (Nat × Nat × Nat × Nat) := [(0, 1, 0, 51), (1, 1, 1, 52), (2, 0, 2, 65), (3, 0, 3, 66), (4, 1, 4, 88), (5, 2, 5, 89), (6, 2, 6, 90), (7, 2, 7, 91), (8, 1, 8, 92), (9, 2, 9, 94), (10, 2, 10, 95), (11, 3, 11, 96), (12, 2, 12, 104), (13, 4, 13, 105), (14, 2, 14, 107), (15, 0, 15, 115), (16, 0, 16, 116), (17, 1, 17, 117), (18, 3, 18, 119), (19, 3, 19, 122), (20, 3, 20, 123), (21, 1, 21, 124), (22, 1, 22, 125), (23, 3, 23, 126), (24, 3, 24, 127), (25, 4, 25, 129), (26, 0, 26, 130), (27, 1, 27, 132)]
theorem zl_k0 : zl_ck 160 1 0 13 431 51 17 1145 = true := by decide +kernel
theorem zl_k1 : zl_ck 183 1 1 18 439 52 21 1153 = true := by decide +kernel
theorem zl_k2 : zl_ck 206 0 2 22 443 65 26 1157 = true := by decide +kernel
theorem zl_k3 : zl_ck 219 0 3 27 627 66 30 1222 = true := by decide +kernel
theorem zl_k4 : zl_ck 232 1 4 31 631 88 34 1226 = true := by decide +kernel
theorem zl_k5 : zl_ck 255 2 5 35 786 89 39 1320 = true := by decide +kernel
theorem zl_k6 : zl_ck 288 2 6 40 796 90 43 1328 = true := by decide +kernel
theorem zl_k7 : zl_ck 321 2 7 44 801 91 47 1336 = true := by decide +kernel
theorem zl_k8 : zl_ck 354 1 8 48 806 92 51 1346 = true := by decide +kernel
theorem zl_k9 : zl_ck 377 2 9 52 810 94 55 1350 = true := by decide +kernel
theorem zl_k10 : zl_ck 410 2 10 56 822 95 59 1362 = true := by decide +kernel
theorem zl_k11 : zl_ck 443 3 11 60 827 96 64 1366 = true := by decide +kernel
theorem zl_k12 : zl_ck 486 2 12 65 835 104 68 1370 = true := by decide +kernel
theorem zl_k13 : zl_ck 519 4 13 69 843 105 73 1374 = true := by decide +kernel
theorem zl_k14 : zl_ck 572 2 14 74 860 107 77 1378 = true := by decide +kernel
theorem zl_k15 : zl_ck 605 0 15 78 867 115 81 1386 = true := by decide +kernel
theorem zl_k16 : zl_ck 618 0 16 82 894 116 85 1414 = true := by decide +kernel
theorem zl_k17 : zl_ck 631 1 17 86 898 117 89 1422 = true := by decide +kernel
theorem zl_k18 : zl_ck 654 3 18 90 902 119 93 1429 = true := by decide +kernel
theorem zl_k19 : zl_ck 697 3 19 94 911 122 97 1439 = true := by decide +kernel
theorem zl_k20 : zl_ck 740 3 20 98 919 123 101 1452 = true := by decide +kernel
theorem zl_k21 : zl_ck 783 1 21 102 927 124 105 1456 = true := by decide +kernel
theorem zl_k22 : zl_ck 806 1 22 106 936 125 109 1460 = true := by decide +kernel
theorem zl_k23 : zl_ck 829 3 23 110 940 126 113 1464 = true := by decide +kernel
theorem zl_k24 : zl_ck 872 3 24 114 956 127 117 1468 = true := by decide +kernel
theorem zl_k25 : zl_ck 915 4 25 118 969 129 121 1472 = true := by decide +kernel
theorem zl_k26 : zl_ck 968 0 26 122 981 130 125 1481 = true := by decide +kernel
theorem zl_k27 : zl_ck 981 1 27 126 985 132 129 1485 = true := by decide +kernel
set_option maxHeartbeats 4000000 in
set_option maxRecDepth 100000 in
/-- THE LAW'S LOOP -/
theorem zl_loop {Inv : zM → Prop} (hp : ∀ q ∈ zl_cases, zPair Inv q.2.2.1 q.2.2.2 q.2.1) (C : zl_C p l s m meth c D ad adV cA b Ln xs) :
    ∀ (n i : Nat), i ≤ Ln + 4 → Ln + 5 ≤ i + n → ∀ (h : zM), Inv h → ∀ (H : Heap) (locs : List Loc) (ls : Array Slot), zl_I s D ad cA h H locs → lv_has ls 4 [(0, .ref b), (1, .ref (ad 0)), (2, .ref (ad 81)), (3, .int (nI i))] → W p l e room_1 s m #[Value.ref b] below meth c H locs 600000 7302250 (lw_Z below #[Value.ref b] s) (F0 m 18 ls []) := by
  intro n
  induction n with
  | zero =>
    intro i h1 h2
    exact absurd h2 (by omega)
  | succ n ih =>
    intro i h1 h2 h hI H locs ls I hl
    have hLn := C.2.2.2.2.2.2.2.2.2.2.1
    refine lv_iload_n C.1 C.2.1 dl_18 rfl (lv_at hl 3 rfl) ?_
    refine lv_aload_n C.1 C.2.1 dl_19 rfl (lv_at hl 0 rfl) ?_
    refine va_slen C.1 C.2.1 C.2.2.2.2.2.2.1 C.2.2.2.2.2.2.2.1 (Nat.not_le.mpr C.2.2.2.2.2.2.2.1) I.1.2.2 dl_20 ?_
    refine lv_iconst (v := 5) C.1 C.2.1 dl_21 (by decide) ?_
    refine lv_isub C.1 C.2.1 dl_22 ?_
    have e5 : (Int32.ofNat Ln - 5).toInt = (Ln : Int) - 5 := zl_sub5 (by omega)
    have ei : (nI i).toInt = (i : Int) := nI_toInt (by omega)
    refine lv_icmp_gt (tgt := 1010) C.1 C.2.1 dl_23 (by decide) (fun z => ?_) (fun z => ?_)
    · refine lv_iconst (v := 1) C.1 C.2.1 dl_1010 (by decide) ?_
      refine va_forget (fun q hq => I.1.2.2.2.2 q hq) ?_
      exact lw_ret C.1 C.2.1 C.2.2.1 C.2.2.2.2.2.2.2.2.1 dl_1011
    · have hi5 : i + 5 ≤ Ln := by
        rw [Int32.lt_iff_toInt_lt, e5, ei] at z
        omega
      refine lv_aload_n C.1 C.2.1 dl_26 rfl (lv_at hl 0 rfl) ?_
      refine lv_iload_n C.1 C.2.1 dl_27 rfl (lv_at hl 3 rfl) ?_
      refine va_sld C.1 C.2.1 C.2.2.2.2.2.2.1 C.2.2.2.2.2.2.2.1 (Nat.not_le.mpr C.2.2.2.2.2.2.2.1) I.1.2.2 (vp_in_nI (by omega) (by omega)) dl_28 ?_
      refine lv_bipush (v := 31) C.1 C.2.1 dl_29 (by decide) ?_
      refine lv_iand C.1 C.2.1 dl_31 ?_
      obtain ⟨k, hk, ek⟩ := pk_andE (xs (nI i).toNatClampNeg) (m := 31) 5 (by decide)
      rw [ek]
      have again : ∀ (h2 : zM), Inv h2 → ∀ (H2 : Heap) (locs2 : List Loc), zl_I s D ad cA h2 H2 locs2 → W p l e room_1 s m #[Value.ref b] below meth c H2 locs2 600000 7302250 (lw_Z below #[Value.ref b] s) (F0 m 1004 ls []) := by
        intro h2 hI2 H2 locs2 I2
        refine lv_iinc (v := nI (i + 5)) (lv' := [(3, .int (nI (i + 5))), (0, .ref b), (1, .ref (ad 0)), (2, .ref (ad 81))]) C.1 C.2.1 dl_1004 hl (k := 3) rfl (by rw [show Int32.ofInt 5 = nI 5 from rfl, nI_add]) (by decide) rfl (fun ls2 hl2 => ?_)
        refine lv_goto (tgt := 18) C.1 C.2.1 dl_1007 (by decide) ?_
        exact ih (i + 5) (by omega) (by omega) h2 hI2 H2 locs2 ls2 I2 (lv_sub hl2 [1, 2, 3, 0] rfl)
      have hk32 : k < 32 := hk
      have hcs : k = 0 ∨ k = 1 ∨ k = 2 ∨ k = 3 ∨ k = 4 ∨ k = 5 ∨ k = 6 ∨ k = 7 ∨ k = 8 ∨ k = 9 ∨ k = 10 ∨ k = 11 ∨ k = 12 ∨ k = 13 ∨ k = 14 ∨ k = 15 ∨ k = 16 ∨ k = 17 ∨ k = 18 ∨ k = 19 ∨ k = 20 ∨ k = 21 ∨ k = 22 ∨ k = 23 ∨ k = 24 ∨ k = 25 ∨ k = 26 ∨ k = 27 ∨ k = 28 ∨ k = 29 ∨ k = 30 ∨ k = 31 := by omega
      rcases hcs with rfl | rfl | rfl | rfl | rfl | rfl | rfl | rfl | rfl | rfl | rfl | rfl | rfl | rfl | rfl | rfl | rfl | rfl | rfl | rfl | rfl | rfl | rfl | rfl | rfl | rfl | rfl | rfl | rfl | rfl | rfl | rfl
      · refine lv_tableIn (off := 128) (tgt := 160) C.1 C.2.1 dl_32 (by decide) (by decide) rfl (by decide) ?_
        exact zl_case zl_k0 (hp (0, 1, 0, 51) (by decide)) C hi5 hI I hl again
      · refine lv_tableIn (off := 151) (tgt := 183) C.1 C.2.1 dl_32 (by decide) (by decide) rfl (by decide) ?_
        exact zl_case zl_k1 (hp (1, 1, 1, 52) (by decide)) C hi5 hI I hl again
      · refine lv_tableIn (off := 174) (tgt := 206) C.1 C.2.1 dl_32 (by decide) (by decide) rfl (by decide) ?_
        exact zl_case zl_k2 (hp (2, 0, 2, 65) (by decide)) C hi5 hI I hl again
      · refine lv_tableIn (off := 187) (tgt := 219) C.1 C.2.1 dl_32 (by decide) (by decide) rfl (by decide) ?_
        exact zl_case zl_k3 (hp (3, 0, 3, 66) (by decide)) C hi5 hI I hl again
      · refine lv_tableIn (off := 200) (tgt := 232) C.1 C.2.1 dl_32 (by decide) (by decide) rfl (by decide) ?_
        exact zl_case zl_k4 (hp (4, 1, 4, 88) (by decide)) C hi5 hI I hl again
      · refine lv_tableIn (off := 223) (tgt := 255) C.1 C.2.1 dl_32 (by decide) (by decide) rfl (by decide) ?_
        exact zl_case zl_k5 (hp (5, 2, 5, 89) (by decide)) C hi5 hI I hl again
      · refine lv_tableIn (off := 256) (tgt := 288) C.1 C.2.1 dl_32 (by decide) (by decide) rfl (by decide) ?_
        exact zl_case zl_k6 (hp (6, 2, 6, 90) (by decide)) C hi5 hI I hl again
      · refine lv_tableIn (off := 289) (tgt := 321) C.1 C.2.1 dl_32 (by decide) (by decide) rfl (by decide) ?_
        exact zl_case zl_k7 (hp (7, 2, 7, 91) (by decide)) C hi5 hI I hl again
      · refine lv_tableIn (off := 322) (tgt := 354) C.1 C.2.1 dl_32 (by decide) (by decide) rfl (by decide) ?_
        exact zl_case zl_k8 (hp (8, 1, 8, 92) (by decide)) C hi5 hI I hl again
      · refine lv_tableIn (off := 345) (tgt := 377) C.1 C.2.1 dl_32 (by decide) (by decide) rfl (by decide) ?_
        exact zl_case zl_k9 (hp (9, 2, 9, 94) (by decide)) C hi5 hI I hl again
      · refine lv_tableIn (off := 378) (tgt := 410) C.1 C.2.1 dl_32 (by decide) (by decide) rfl (by decide) ?_
        exact zl_case zl_k10 (hp (10, 2, 10, 95) (by decide)) C hi5 hI I hl again
      · refine lv_tableIn (off := 411) (tgt := 443) C.1 C.2.1 dl_32 (by decide) (by decide) rfl (by decide) ?_
        exact zl_case zl_k11 (hp (11, 3, 11, 96) (by decide)) C hi5 hI I hl again
      · refine lv_tableIn (off := 454) (tgt := 486) C.1 C.2.1 dl_32 (by decide) (by decide) rfl (by decide) ?_
        exact zl_case zl_k12 (hp (12, 2, 12, 104) (by decide)) C hi5 hI I hl again
      · refine lv_tableIn (off := 487) (tgt := 519) C.1 C.2.1 dl_32 (by decide) (by decide) rfl (by decide) ?_
        exact zl_case zl_k13 (hp (13, 4, 13, 105) (by decide)) C hi5 hI I hl again
      · refine lv_tableIn (off := 540) (tgt := 572) C.1 C.2.1 dl_32 (by decide) (by decide) rfl (by decide) ?_
        exact zl_case zl_k14 (hp (14, 2, 14, 107) (by decide)) C hi5 hI I hl again
      · refine lv_tableIn (off := 573) (tgt := 605) C.1 C.2.1 dl_32 (by decide) (by decide) rfl (by decide) ?_
        exact zl_case zl_k15 (hp (15, 0, 15, 115) (by decide)) C hi5 hI I hl again
      · refine lv_tableIn (off := 586) (tgt := 618) C.1 C.2.1 dl_32 (by decide) (by decide) rfl (by decide) ?_
        exact zl_case zl_k16 (hp (16, 0, 16, 116) (by decide)) C hi5 hI I hl again
      · refine lv_tableIn (off := 599) (tgt := 631) C.1 C.2.1 dl_32 (by decide) (by decide) rfl (by decide) ?_
        exact zl_case zl_k17 (hp (17, 1, 17, 117) (by decide)) C hi5 hI I hl again
      · refine lv_tableIn (off := 622) (tgt := 654) C.1 C.2.1 dl_32 (by decide) (by decide) rfl (by decide) ?_
        exact zl_case zl_k18 (hp (18, 3, 18, 119) (by decide)) C hi5 hI I hl again
      · refine lv_tableIn (off := 665) (tgt := 697) C.1 C.2.1 dl_32 (by decide) (by decide) rfl (by decide) ?_
        exact zl_case zl_k19 (hp (19, 3, 19, 122) (by decide)) C hi5 hI I hl again
      · refine lv_tableIn (off := 708) (tgt := 740) C.1 C.2.1 dl_32 (by decide) (by decide) rfl (by decide) ?_
        exact zl_case zl_k20 (hp (20, 3, 20, 123) (by decide)) C hi5 hI I hl again
      · refine lv_tableIn (off := 751) (tgt := 783) C.1 C.2.1 dl_32 (by decide) (by decide) rfl (by decide) ?_
        exact zl_case zl_k21 (hp (21, 1, 21, 124) (by decide)) C hi5 hI I hl again
      · refine lv_tableIn (off := 774) (tgt := 806) C.1 C.2.1 dl_32 (by decide) (by decide) rfl (by decide) ?_
        exact zl_case zl_k22 (hp (22, 1, 22, 125) (by decide)) C hi5 hI I hl again
      · refine lv_tableIn (off := 797) (tgt := 829) C.1 C.2.1 dl_32 (by decide) (by decide) rfl (by decide) ?_
        exact zl_case zl_k23 (hp (23, 3, 23, 126) (by decide)) C hi5 hI I hl again
      · refine lv_tableIn (off := 840) (tgt := 872) C.1 C.2.1 dl_32 (by decide) (by decide) rfl (by decide) ?_
        exact zl_case zl_k24 (hp (24, 3, 24, 127) (by decide)) C hi5 hI I hl again
      · refine lv_tableIn (off := 883) (tgt := 915) C.1 C.2.1 dl_32 (by decide) (by decide) rfl (by decide) ?_
        exact zl_case zl_k25 (hp (25, 4, 25, 129) (by decide)) C hi5 hI I hl again
      · refine lv_tableIn (off := 936) (tgt := 968) C.1 C.2.1 dl_32 (by decide) (by decide) rfl (by decide) ?_
        exact zl_case zl_k26 (hp (26, 0, 26, 130) (by decide)) C hi5 hI I hl again
      · refine lv_tableIn (off := 949) (tgt := 981) C.1 C.2.1 dl_32 (by decide) (by decide) rfl (by decide) ?_
        exact zl_case zl_k27 (hp (27, 1, 27, 132) (by decide)) C hi5 hI I hl again
      · refine lv_tableOut (tgt := 1004) C.1 C.2.1 dl_32 (Or.inr (by decide)) (by decide) ?_
        exact again h hI H locs I
      · refine lv_tableOut (tgt := 1004) C.1 C.2.1 dl_32 (Or.inr (by decide)) (by decide) ?_
        exact again h hI H locs I
      · refine lv_tableOut (tgt := 1004) C.1 C.2.1 dl_32 (Or.inr (by decide)) (by decide) ?_
        exact again h hI H locs I
      · refine lv_tableOut (tgt := 1004) C.1 C.2.1 dl_32 (Or.inr (by decide)) (by decide) ?_
        exact again h hI H locs I
end ZL
