/-! SWITCHES, the library's own, CALLS, ANSWERS -/
def zc_pre (D : va_G) (ad adV : Nat → Nat) (cA : Nat → ClassId) (A : Nat → Prop) (h : zM) (U : State) : Prop :=
  va_P D vwCl (zc_ws ad cA h) U.heap ∧ va_K D vwCl (zc_tys cA) U ∧ va_D A (zc_ws ad cA h) ∧ zc_X ad adV A U U.heap ∧ ∀ q, U.heap.size ≤ q → A q
def zc_B (D : va_G) (ad : Nat → Nat) (cA : Nat → ClassId) (A : Nat → Prop) (h : zM) (t : State) : Prop :=
  va_P D vwCl (zc_ws ad cA h) t.heap ∧ va_K D vwCl (zc_tys cA) t ∧ va_D A (zc_ws ad cA h)
def zc_Qc (Q : zQ) (D : va_G) (ad : Nat → Nat) (cA : Nat → ClassId) (A : Nat → Prop) : Array Value → State → Outcome → State → Prop := fun _ st oc t =>
  (∃ (rv : Option zV) (h : zM), oc = .returned (rv.map (zc_v ad)) ∧ (Q rv h ∧ zc_okO rv ∧ zc_M h) ∧ zc_B D ad cA A h t) ∧ va_F A st t
def zx_cN (j : Nat) : Nat := (zx_mt j).2.2.2.2.2.2.1
/-- an object of a method's own class -/
def zx_rcv (j r : Nat) : Bool := (zx_tg r == 0 && zx_ci r == zx_cN j) || (zx_cN j == 99 && decide (1000 ≤ r) && decide (r < 1000 + zc_nS))
def zc_rcv (j : Nat) (As : List zV) : Prop := zx_sts.contains j = true ∨ ∃ r As2, As = .inr (.inr r) :: As2 ∧ zx_rcv j r = true
/-- A METHOD'S CONTRACT, in the shadow's words -/
def zR (j : Nat) (As : List zV) (h : zM) (Q : zQ) : Prop := zc_rcv j As ∧ (zc_okS As → zc_M h → ∀ (l : Launch) (D : va_G) (ad adV : Nat → Nat) (cA : Nat → ClassId) (A : Nat → Prop),
  Met l (zx_y j) (zc_wsj j) (zx_rm j) (va_Pc (As.map (zc_v ad)) (zc_pre D ad adV cA A h)) (zc_Qc Q D ad cA A) 0 0 A)
theorem zc_X.same {ad adV : Nat → Nat} {A : Nat → Prop} {u U : State} {H : Heap} (hv : U.vm = u.vm) (h : zc_X ad adV A u H) : zc_X ad adV A U H := by
  obtain ⟨h1, h2, h3, h4, v, h5, h6⟩ := h
  have ha : u.vm.Alike U.vm := by rw [hv]; exact Vm.Alike.refl _
  refine ⟨fun w hw => va_Nw.same ?_ hv.symm (h1 w hw), fun q hq => vk_R.same hv (h2 q hq), h3.moved ha, h4.moved ha, v, h5, h6.moved ha⟩
  have := (List.mem_filter.mp hw).2
  cases w <;> first | rfl | (simp [zc_isN] at this)
theorem zc_X.warm {ad adV : Nat → Nat} {A : Nat → Prop} {s U : State} {H : Heap} (hW : s.WarmedH U.vm) (h : zc_X ad adV A s H) : zc_X ad adV A U H := by
  obtain ⟨h1, h2, h3, h4, v, h5, h6⟩ := h
  refine ⟨fun w hw => ?_, fun q hq => vk_R.warm hW (h2 q hq), h3.moved hW.alike, h4.moved hW.alike, v, h5, h6.moved hW.alike⟩
  have hn := (List.mem_filter.mp hw).2
  have h0 := h1 w hw
  cases w <;> first | exact va_Nw.warmM hW h0 | (simp [zc_isN] at hn)
theorem zc_X.kept {ad adV : Nat → Nat} {A : Nat → Prop} {U : State} {H H1 : Heap} (h : zc_X ad adV A U H) (hq : ∀ a : Nat, a < H.size → ¬ A a → H1[a]? = H[a]?) : zc_X ad adV A U H1 := by
  obtain ⟨h1, h2, h3, h4, v, h5, h6⟩ := h
  exact ⟨h1, h2, h3.kept hq, h4.kept hq, v, h5, h6.kept hq⟩
theorem zc_blind {av : List Value} {D : va_G} {ad adV : Nat → Nat} {cA : Nat → ClassId} {A : Nat → Prop} {h : zM} : FrameBlind (va_Pc av (zc_pre D ad adV cA A h)) := by
  intro a U g mk q
  obtain ⟨q0, q1, q2, q3, q4, q5⟩ := q
  exact ⟨q0, q1, va_K.moved (u := U) (U := U.calling g mk a) (Vm.Alike.refl U.vm) q2, q3, zc_X.same (u := U) (U := U.calling g mk a) rfl q4, q5⟩
theorem zc_good {w : Cond} (h : w ∈ zc_tb) : (w.onTables && w.keeps) = true ∨ ∃ ty, w = .arrayClass ty := good_of_word (List.mem_filter.mp h).2
theorem zc_goodIn {ws : List Cond} (h : ∀ w ∈ ws, w ∈ zc_tb) : GoodIn zc_tb ws := fun w hw => ⟨h w hw, zc_good (h w hw)⟩
theorem zx_low_inv {S : List zV} {P : Prop} (h : zx_low S P) : S.length ≤ 4 ∧ P := by
  unfold zx_low at h
  split at h
  · exact ⟨by simp, h⟩
  · exact ⟨by simp, h⟩
  · exact ⟨by simp, h⟩
  · exact ⟨by simp, h⟩
  · exact ⟨by simp, h⟩
  · exact h.elim
theorem zc_cats (ad : Nat → Nat) : ∀ S : List zV, ((S.map (zc_v ad)).map fun v => v.category).sum ≤ 2 * S.length
  | [] => by simp
  | v :: S => by
    have := zc_cats ad S
    have h2 : (zc_v ad v).category ≤ 2 := by rcases v with v | (v | v) <;> simp [zc_v, Value.category]
    simp only [List.map_cons, List.sum_cons, List.length_cons]
    omega
theorem zx_tk_inv {k : List zV → List zV → Prop} : ∀ (n : Nat) (S acc : List zV), zx_tk n S acc k → ∃ As S2, S = As.reverse ++ S2 ∧ As.length = n ∧ k (As ++ acc) S2
  | 0, S, acc, h => ⟨[], S, rfl, rfl, h⟩
  | n + 1, [], acc, h => h.elim
  | n + 1, v :: S, acc, h => by
    obtain ⟨As, S2, h1, h2, h3⟩ := zx_tk_inv n S (v :: acc) h
    refine ⟨As ++ [v], S2, ?_, by simp [h2], by simpa using h3⟩
    rw [h1]
    simp
section ZU
variable {j : Nat} {p : Program} {l : Launch} {e : Env} {s : State} {m : MethodId} {args : Array Value} {below : List Frame} {meth : Method} {c : Code} {D : va_G} {ad adV : Nat → Nat} {cA : Nat → ClassId} {A : Nat → Prop} {Qf : State → Prop} {i : Nat} {L : zL} {S : List zV} {h : zM} {Q : zQ} {K : Nat → zL → List zV → zM → Prop} {R : Nat → List zV → zM → zQ → Prop}
/-- behind a call -/
theorem zc_call {pc : Nat} {ls : Array Slot} {rest st0 : List Value} {a : Array Value} {H : Heap} {locs : List Loc} {RR : Room} {H0 : Heap} {Qz : zQ} (hr : va_Run p l e RR s m args below meth c H locs 0 0 0 0 (F0 m pc ls st0) rest (zc_Qc Qz D ad cA A a) A) (hS : va_S A H0 H locs)
    (kk : ∀ (rv : Option zV) (h2 : zM) (t : State) (H1 : Heap) (locs1 : List Loc), t.heap = H1 → s.vm.Alike t.vm → Qz rv h2 → zc_okO rv → zc_M h2 → zc_B D ad cA A h2 t → va_S A H0 H1 locs1 → W p l e RR s m args below meth c H1 locs1 0 0 Qf (F0 m (pc + 3) ls ((rv.map (zc_v ad)).toList ++ rest))) : W p l e RR s m args below meth c H locs 0 0 Qf (F0 m pc ls st0) := by
  intro T hT X
  obtain ⟨v, st₀, t, T', L, h0, X', hL, e1, e2, ⟨⟨rv, h2, hv, ⟨hp1, hp2, hp3⟩, hb⟩, hz, hk⟩, st⟩ := hr T hT X
  cases hv
  rw [h0] at hz hk
  obtain ⟨t2, a1, b1⟩ := kk rv h2 t T'.heap (locs ++ L) e1.symm (by rw [← e2]; exact X'.warmed.alike) hp1 hp2 hp3 hb
    ⟨Nat.le_trans hS.1 (by rw [e1]; exact hz), fun q h1 h2 => by rw [e1, hk q (Nat.lt_of_lt_of_le h1 hS.1) h2]; exact hS.2.1 q h1 h2, fun q hq => by
      rcases List.mem_append.mp hq with h | h
      · exact hS.2.2 q h
      · exact hL q h⟩ T' rfl X'
  exact ⟨t2, st t2 a1, b1⟩
theorem zc_preOf {H : Heap} {locs : List Loc} {ls : Array Slot} {U : State} (C : zc_C j p s m args meth c D ad adV cA A) (I : zc_I j s D ad cA A L S h H locs ls) (hU : U.heap = H) (hW : s.WarmedH U.vm) : zc_pre D ad adV cA A h U := by
  refine ⟨by rw [hU]; exact I.1.1, va_K.moved hW.alike C.2.2.2.2.2.2.2.1, I.1.2.1, ?_, fun q hq => C.2.2.2.2.2.2.2.2.2 q ?_⟩
  · rw [hU]
    exact (C.2.2.2.2.2.2.2.2.1.warm hW).kept I.1.2.2.2.1
  · rw [hU] at hq
    exact Nat.le_trans I.1.2.2.1 hq
/-- behind a call: on in the shadow -/
theorem zc_back {a : Nat} {As S2 : List zV} {pc : Nat} {st0 : List Value} {aa : Array Value} {H : Heap} {locs : List Loc} {ls : Array Slot} (C : zc_C j p s m args meth c D ad adV cA A) (hn : zx_pc j (i + 1) = pc + 3) (hK : ∀ i2 L2 S2 h2, K i2 L2 S2 h2 → zc_W j p l e s m args below meth c D ad adV cA A Qf i2 L2 S2 h2) (I : zc_I j s D ad cA A L S2 h H locs ls)
    (hr : va_Run p l e (zx_rm j) s m args below meth c H locs 0 0 0 0 (F0 m pc ls st0) (S2.map (zc_v ad)) (zc_Qc (fun rv h' => K (i + 1) L (zx_psh rv S2) h') D ad cA A aa) A) : W p l e (zx_rm j) s m args below meth c H locs 0 0 Qf (F0 m pc ls st0) := by
  refine zc_call hr I.1.2.2 (fun rv h2 t H1 locs1 ht hvm hq hok hM hB hS => ?_)
  have I2 : zc_I j s D ad cA A L (zx_psh rv S2) h2 H1 locs1 ls := by
    refine ⟨⟨by rw [← ht]; exact hB.1, hB.2.2, hS⟩, I.2.1, ?_, hM⟩
    cases rv with
    | none => exact I.2.2.1
    | some v => exact List.forall_mem_cons.mpr ⟨hok v rfl, I.2.2.1⟩
  have := zc_next hK hn hq I2
  cases rv with
  | none => exact this
  | some v => exact this
/-- what a program has checked of a callee -/
theorem zk_c_inv {a n : Nat} {st : Bool} (hc : zk_c j a n st = true) : Cond.code (zx_y a) (zx_by a) (zx_ml a) (zx_rt a) ∈ zc_tb ∧ (if st then Cond.static (zx_y a) else Cond.instanceMethod (zx_y a)) ∈ zc_tb ∧ (st = false → Cond.selects (zc_own a) (zx_y a) (zx_y a) ∈ zc_tb) ∧ Cond.initialized (zc_own a) ∈ zc_tb ∧ (zx_rm a).frames + 1 ≤ (zx_rm j).frames ∧ 8 + (zx_ml a + 11) + (zx_rm a).locals ≤ (zx_rm j).locals ∧ (parseMethodDescriptor (zx_y a).desc).map (fun d => d.parameters.length) = some n ∧ zc_own a ≠ "java/lang/invoke/MethodHandle" ∧ zc_own a ≠ "java/lang/invoke/VarHandle" ∧ zx_sts.contains a = st ∧ a < 205 := by
  simp only [zk_c, Bool.and_eq_true, decide_eq_true_eq, beq_iff_eq, Bool.or_eq_true] at hc
  obtain ⟨⟨⟨⟨⟨⟨⟨⟨⟨⟨h0, h1⟩, h2⟩, h3⟩, h4⟩, h5⟩, h6⟩, h7⟩, h8⟩, h9⟩, h10⟩ := hc
  refine ⟨zk_w_in h1, zk_w_in h2, fun hst => ?_, zk_w_in h4, h5, h6, h7, h8, h9, h10, h0⟩
  rcases h3 with h3 | h3
  · rw [hst] at h3; cases h3
  · exact zk_w_in h3
theorem zc_wsj_in {a n : Nat} {st : Bool} (hc : zk_c j a n st = true) : ∀ w ∈ zc_wsj a, w ∈ zc_tb := by
  intro w hw
  rcases List.mem_cons.mp hw with rfl | hw
  · exact (zk_c_inv hc).1
  · exact hw
theorem zk_l_inv {k a : Nat} {ts : List (Int × Nat)} (hl : zk_l j k a ts = true) : Cond.methodLink (zc_own j) k (zx_y a) ∈ zc_tb ∨ Cond.methodLinkNest (zc_own j) k (zx_y a) "PointMaker" ∈ zc_nw := by
  unfold zk_l at hl
  split at hl
  · exact Or.inl (zk_w_in hl)
  · exact Or.inr (zk_nw_in hl)
  · cases hl
theorem zc_own_cN : ∀ a, a < 205 → zx_cN a ≠ 99 → (vwCl[zx_cN a]?).map (fun q => q.1) = some (zc_own a) := by decide +kernel
theorem zc_own_S : ∀ a, a < 205 → zx_cN a = 99 → zc_own a = "java/lang/String" := by decide +kernel
/-- a receiver stands -/
theorem zc_recv {a r : Nat} {H : Heap} {locs : List Loc} {ls : Array Slot} (C : zc_C j p s m args meth c D ad adV cA A) (I : zc_I j s D ad cA A L S h H locs ls) (ha : a < 205) (hr : zx_rcv a r = true) : ∃ cellB : Cell, H[ad r]? = some cellB ∧ cellB.vm.isStatics = false ∧ s.vm.findClass (zc_own a) = some cellB.cls := by
  simp only [zx_rcv, Bool.or_eq_true, Bool.and_eq_true, beq_iff_eq, decide_eq_true_eq] at hr
  rcases hr with ⟨h1, h2⟩ | ⟨⟨h1, h2⟩, h3⟩
  · have hr : r < 108 := zc_r (by rw [h1]; decide)
    have hs := zc_shp r hr h1
    have hne : zx_cN a ≠ 99 := by
      intro z
      rw [h2, z] at hs
      exact absurd hs (by simp)
    have ho := zc_own_cN a ha hne
    rw [← h2] at ho
    obtain ⟨q, hq⟩ : ∃ q, vwCl[zx_ci r]? = some q := by
      cases hv : vwCl[zx_ci r]? with
      | none => rw [hv] at ho; cases ho
      | some q => exact ⟨q, rfl⟩
    rw [hq] at ho
    have hc : (zc_ws ad cA h)[r]? = some (ad r, .inr (zx_ci r, zc_fs ad h r)) := by rw [zc_at ad cA h hr, zc_el0 h1]
    have := va_recv C.2.2.2.2.2.2.2.1 I.1.1 hq hc
    rw [← Option.some.inj ho]
    exact this
  · rw [zc_own_S a ha h1]
    have := vk_recv (i := r - 1000) C.2.2.2.2.2.2.2.2.1.2.2.1 (by omega) I.1.2.2
    have er : 1000 + (r - 1000) = r := by omega
    simp only [er] at this
    exact this
theorem zs_invokestatic {n pc len a b : Nat} {d : Int} {ts : List (Int × Nat)} (C : zc_C j p s m args meth c D ad adV cA A) (he : zk_e j i (pc, .invokestatic n, len, a, b, d, ts) = true) (hA : zx_act zR (pc, .invokestatic n, len, a, b, d, ts) i L S h Q K) (hK : ∀ i2 L2 S2 h2, K i2 L2 S2 h2 → zc_W j p l e s m args below meth c D ad adV cA A Qf i2 L2 S2 h2) : zc_W j p l e s m args below meth c D ad adV cA A Qf i L S h := by
  intro H locs ls I
  simp only [zk_e, Bool.and_eq_true, decide_eq_true_eq, zk_s, zk_d] at he
  obtain ⟨hpc, ⟨⟨hd, hn⟩, hc⟩, hl⟩ := he
  obtain ⟨As, S2, hS, hlen, hk⟩ := zx_tk_inv _ _ _ hA
  rw [List.append_nil] at hk
  obtain ⟨hlow, -, hk⟩ := zx_low_inv hk
  obtain ⟨k1, k2, -, k4, k5, k6, k7, k8, k9, k10, k11⟩ := zk_c_inv hc
  have hws := zc_wsj_in hc
  have hokA : zc_okS As := fun v hv => I.2.2.1 v (by rw [hS]; exact List.mem_append_left _ (List.mem_reverse.mpr hv))
  have hok2 : zc_okS S2 := fun v hv => I.2.2.1 v (by rw [hS]; exact List.mem_append_right _ hv)
  have hM := hk hokA I.2.2.2 l D ad adV cA A
  rw [hpc]
  have hst : S.map (zc_v ad) = (As.map (zc_v ad)).reverse ++ S2.map (zc_v ad) := by rw [hS, List.map_append, List.map_reverse]
  rw [hst]
  have hcat := zc_cats ad S2
  have hp : PreS s H (va_Pc (As.map (zc_v ad)) (zc_pre D ad adV cA A h)) (As.map (zc_v ad)) := ⟨zc_blind, fun U hU hW => ⟨rfl, zc_preOf C I hU hW⟩⟩
  refine zc_back (a := a) (As := As) (aa := (As.map (zc_v ad)).toArray) C hn hK (S2 := S2) ⟨I.1, I.2.1, hok2, I.2.2.2⟩ ?_
  rcases zk_l_inv hl with hl | hl
  · refine va_runS (y := zx_y a) (bytes := zx_by a) (maxL := zx_ml a) (ret := zx_rt a) (ws := zc_wsj a) (rm := zx_rm a) (Ts := zc_tb) (own := zc_own j) (n := b) (nL := zx_ml j) ⟨C.1, C.2.1, C.2.2.2.1, C.2.2.2.2.1, C.2.2.2.2.2.1⟩ hM ?_ hp rfl (by rw [List.length_map]; exact hlen) I.2.1.1.size rfl (by show 2 * 0 + _ ≤ 8; omega) hd ⟨Nat.zero_le _, Nat.zero_le _⟩
    exact ⟨callB_of b C.2.2.2.2.2.1 (zc_goodIn hws) rfl rfl rfl (C.2.2.2.2.2.1 _ k4) (C.2.2.2.2.2.1 _ hl) ⟨k8, k9, k7⟩ ⟨k5, k6⟩, C.2.2.2.2.2.1 _ k2⟩
  · refine va_runSN (y := zx_y a) (bytes := zx_by a) (maxL := zx_ml a) (ret := zx_rt a) (ws := zc_wsj a) (rm := zx_rm a) (Ts := zc_tb) (own := zc_own j) (host := "PointMaker") (n := b) (nL := zx_ml j) ⟨C.1, C.2.1, C.2.2.2.1, C.2.2.2.2.1, C.2.2.2.2.2.1⟩ hM ?_ hp rfl (by rw [List.length_map]; exact hlen) I.2.1.1.size rfl (by show 2 * 0 + _ ≤ 8; omega) hd ⟨Nat.zero_le _, Nat.zero_le _⟩
    exact ⟨va_cnB b C.2.2.2.2.2.1 (zc_goodIn hws) rfl rfl rfl (C.2.2.2.2.2.2.2.2.1.1 _ hl) (C.2.2.2.2.2.1 _ k4) ⟨k8, k9, k7⟩ ⟨k5, k6⟩, C.2.2.2.2.2.1 _ k2, trivial⟩
theorem zs_invokevirtual {n pc len a b : Nat} {d : Int} {ts : List (Int × Nat)} (C : zc_C j p s m args meth c D ad adV cA A) (he : zk_e j i (pc, .invokevirtual n, len, a, b, d, ts) = true) (hA : zx_act zR (pc, .invokevirtual n, len, a, b, d, ts) i L S h Q K) (hK : ∀ i2 L2 S2 h2, K i2 L2 S2 h2 → zc_W j p l e s m args below meth c D ad adV cA A Qf i2 L2 S2 h2) : zc_W j p l e s m args below meth c D ad adV cA A Qf i L S h := by
  intro H locs ls I
  simp only [zk_e, Bool.and_eq_true, decide_eq_true_eq, zk_s, zk_d] at he
  obtain ⟨hpc, ⟨⟨⟨hd, hn⟩, hc⟩, hl⟩, hb0⟩ := he
  obtain ⟨As, S2, hS, hlen, hk⟩ := zx_tk_inv _ _ _ hA
  rw [List.append_nil] at hk
  obtain ⟨hlow, hrc, hk⟩ := zx_low_inv hk
  obtain ⟨k1, k2, k3, k4, k5, k6, k7, k8, k9, k10, k11⟩ := zk_c_inv hc
  have hws := zc_wsj_in hc
  have hokA : zc_okS As := fun v hv => I.2.2.1 v (by rw [hS]; exact List.mem_append_left _ (List.mem_reverse.mpr hv))
  have hok2 : zc_okS S2 := fun v hv => I.2.2.1 v (by rw [hS]; exact List.mem_append_right _ hv)
  have hM := hk hokA I.2.2.2 l D ad adV cA A
  rcases hrc with hrc | ⟨r, As2, rfl, hrc⟩
  · rw [k10] at hrc; cases hrc
  have hre := zc_recv C I k11 hrc
  rw [hpc]
  have hst : S.map (zc_v ad) = (As2.map (zc_v ad)).reverse ++ Value.ref (ad r) :: S2.map (zc_v ad) := by
    rw [hS]
    simp [zc_v]
  rw [hst]
  have hcat := zc_cats ad S2
  have hl2 : As2.length = b - 1 := by simp at hlen; omega
  have hp : PreV s H (zc_own a) (ad r) (va_Pc ((Sum.inr (Sum.inr r) :: As2).map (zc_v ad)) (zc_pre D ad adV cA A h)) (As2.map (zc_v ad)) := ⟨zc_blind, hre, fun U hU hW => ⟨rfl, zc_preOf C I hU hW⟩⟩
  refine zc_back (a := a) (As := As2) (aa := (Value.ref (ad r) :: As2.map (zc_v ad)).toArray) C hn hK (S2 := S2) ⟨I.1, I.2.1, hok2, I.2.2.2⟩ ?_
  rcases zk_l_inv hl with hl | hl
  · refine va_runV (y := zx_y a) (bytes := zx_by a) (maxL := zx_ml a) (ret := zx_rt a) (ws := zc_wsj a) (rm := zx_rm a) (Ts := zc_tb) (own := zc_own j) (C := zc_own a) (n := b - 1) (nL := zx_ml j) ⟨C.1, C.2.1, C.2.2.2.1, C.2.2.2.2.1, C.2.2.2.2.2.1⟩ hM ?_ hp rfl (by rw [List.length_map]; exact hl2) I.2.1.1.size rfl (by show 2 * 0 + _ ≤ 8; omega) hd ⟨Nat.zero_le _, Nat.zero_le _⟩
    exact ⟨callB_of (b - 1) C.2.2.2.2.2.1 (zc_goodIn hws) rfl rfl rfl (C.2.2.2.2.2.1 _ k4) (C.2.2.2.2.2.1 _ hl) ⟨k8, k9, k7⟩ ⟨k5, k6⟩, C.2.2.2.2.2.1 _ k2, C.2.2.2.2.2.1 _ (k3 rfl)⟩
  · refine va_runVN (y := zx_y a) (bytes := zx_by a) (maxL := zx_ml a) (ret := zx_rt a) (ws := zc_wsj a) (rm := zx_rm a) (Ts := zc_tb) (own := zc_own j) (C := zc_own a) (host := "PointMaker") (n := b - 1) (nL := zx_ml j) ⟨C.1, C.2.1, C.2.2.2.1, C.2.2.2.2.1, C.2.2.2.2.2.1⟩ hM ?_ hp rfl (by rw [List.length_map]; exact hl2) I.2.1.1.size rfl (by show 2 * 0 + _ ≤ 8; omega) hd ⟨Nat.zero_le _, Nat.zero_le _⟩
    exact ⟨va_cnB (b - 1) C.2.2.2.2.2.1 (zc_goodIn hws) rfl rfl rfl (C.2.2.2.2.2.2.2.2.1.1 _ hl) (C.2.2.2.2.2.1 _ k4) ⟨k8, k9, k7⟩ ⟨k5, k6⟩, C.2.2.2.2.2.1 _ k2, C.2.2.2.2.2.1 _ (k3 rfl)⟩
end ZU
