/-! TEXTS: length and charAt, by the JDK's own code -/
theorem zMetJ {l : Launch} {y : MethodName} {ws ws' : List Cond} {rm : Room} {Pc : Array Value → State → Prop} {Qc : Array Value → State → Outcome → State → Prop} {mc ms : Nat} {free : Addr → Prop} {cc : ByteArray} {maxL : Nat} {ret : Option FieldType}
    (hy : plainFor y = true) (hw : ws = Cond.code y cc maxL ret :: ws')
    (body : ∀ p e s m args below meth c s₁, BodyLoose p l y (headSpec ws rm) cc maxL ret e s m args below meth c s₁ → c.maxLocals = maxL → Pc args s →
      W p l e (headSpec ws rm).room s m args below meth c s.heap [] 0 0 (MQ below Qc args s mc ms free) (entryFrame m args maxL)) : Met l y ws rm Pc Qc mc ms free := by
  refine MetFree.of_bodySF (code := cc) (maxLocals := maxL) (ret := ret) hy ?_ ?_
  · intro args s m h hn
    obtain ⟨meth, c, h1, h2, h3, h4, h5, h6, -, -⟩ := Cond.code_spec hn (atoms_spec (ws := ws) h _ (by rw [hw]; exact List.mem_cons_self))
    exact ⟨meth, c, h1, h2, h3, h4, h5, h6⟩
  · intro p e s m args below meth c s₁ B hml hP _
    have hh0 : s₁.heap = s.heap := by rw [B.state]; rfl
    obtain ⟨t, a1, o, b1, b2, b3⟩ := body p e s m args below meth c s₁ B hml hP s₁ hh0 (Stand.of_body B)
    exact ⟨t, o, a1, b1, b2, ⟨b3.1, b3.2⟩⟩
/-- an answer that changes nothing -/
def zj_Q (rv : Option zV) (h : zM) : zQ := fun r h2 => r = rv ∧ h2 = h
def zj_C (j : Nat) : Prop := True
theorem zj_end {D : va_G} {ad : Nat → Nat} {cA : Nat → ClassId} {A : Nat → Prop} {h : zM} {args : Array Value} {s t : State} {H : Heap} {locs : List Loc} {rv : Option zV} (hM : zc_M h) (hok : zc_okO rv) (hP : va_P D vwCl (zc_ws ad cA h) H) (hD : va_D A (zc_ws ad cA h)) (hK : va_K D vwCl (zc_tys cA) s) (hS : va_S A s.heap H locs) (ht : t.heap = H) (hW : s.WarmedH t.vm) : zc_Qc (zj_Q rv h) D ad cA A args s (.returned (rv.map (zc_v ad))) t :=
  ⟨⟨rv, h, rfl, ⟨⟨rfl, rfl⟩, hok, hM⟩, by rw [ht]; exact hP, va_K.moved hW.alike hK, hD⟩, hS.F ht⟩
def zj_ws (y : MethodName) (cc : ByteArray) (ml : Nat) (ret : Option FieldType) : List Cond := .code y cc ml ret :: zc_tb
theorem zjw_0 : (.fieldLink RJ0 38 "java/lang/String" "COMPACT_STRINGS" "Z" : Cond) ∈ zc_tb := zc_tbI (by decide +kernel) (by decide +kernel)
theorem zjw_1 : (.fieldLink RJ0 15 "java/lang/String" "coder" "B" : Cond) ∈ zc_tb := zc_tbI (by decide +kernel) (by decide +kernel)
theorem zjw_2 : (.fieldLink RJ0 9 "java/lang/String" "value" "[B" : Cond) ∈ zc_tb := zc_tbI (by decide +kernel) (by decide +kernel)
theorem zjw_3 : (.code yJ0_coder_7d493 cJ0_coder_7d493 1 (some .byte) : Cond) ∈ zc_tb := zc_tbI (by decide +kernel) (by decide +kernel)
theorem zjw_4 : (.initialized RJ0 : Cond) ∈ zc_tb := zc_tbI (by decide +kernel) (by decide +kernel)
theorem zjw_5 : (.methodLink RJ0 335 yJ0_coder_7d493 : Cond) ∈ zc_tb := zc_tbI (by decide +kernel) (by decide +kernel)
theorem zjw_6 : (.instanceMethod yJ0_coder_7d493 : Cond) ∈ zc_tb := zc_tbI (by decide +kernel) (by decide +kernel)
theorem zjw_7 : (.selects RJ0 yJ0_coder_7d493 yJ0_coder_7d493 : Cond) ∈ zc_tb := zc_tbI (by decide +kernel) (by decide +kernel)
theorem zjw_8 : (.fieldLink RJ0 1053 "jdk/internal/util/Preconditions" "SIOOBE_FORMATTER" "Ljava/util/function/BiFunction;" : Cond) ∈ zc_tb := zc_tbI (by decide +kernel) (by decide +kernel)
theorem zjw_9 : (.code yJ3_checkIndex_8e157 cJ3_checkIndex_8e157 3 (some .int) : Cond) ∈ zc_tb := zc_tbI (by decide +kernel) (by decide +kernel)
theorem zjw_10 : (.initialized RJ3 : Cond) ∈ zc_tb := zc_tbI (by decide +kernel) (by decide +kernel)
theorem zjw_11 : (.methodLink RJ0 1059 yJ3_checkIndex_8e157 : Cond) ∈ zc_tb := zc_tbI (by decide +kernel) (by decide +kernel)
theorem zjw_12 : (.static yJ3_checkIndex_8e157 : Cond) ∈ zc_tb := zc_tbI (by decide +kernel) (by decide +kernel)
theorem zjw_13 : (.code yJ0_checkIndex_df160 cJ0_checkIndex_df160 2 none : Cond) ∈ zc_tb := zc_tbI (by decide +kernel) (by decide +kernel)
theorem zjw_14 : (.methodLink RJ1 9 yJ0_checkIndex_df160 : Cond) ∈ zc_tb := zc_tbI (by decide +kernel) (by decide +kernel)
theorem zjw_15 : (.static yJ0_checkIndex_df160 : Cond) ∈ zc_tb := zc_tbI (by decide +kernel) (by decide +kernel)
theorem zjw_16 : (.code yJ0_isLatin1_aae02 cJ0_isLatin1_aae02 1 (some .boolean) : Cond) ∈ zc_tb := zc_tbI (by decide +kernel) (by decide +kernel)
theorem zjw_17 : (.methodLink RJ0 492 yJ0_isLatin1_aae02 : Cond) ∈ zc_tb := zc_tbI (by decide +kernel) (by decide +kernel)
theorem zjw_18 : (.instanceMethod yJ0_isLatin1_aae02 : Cond) ∈ zc_tb := zc_tbI (by decide +kernel) (by decide +kernel)
theorem zjw_19 : (.selects RJ0 yJ0_isLatin1_aae02 yJ0_isLatin1_aae02 : Cond) ∈ zc_tb := zc_tbI (by decide +kernel) (by decide +kernel)
theorem zjw_20 : (.code yJ1_charAt_3b067 cJ1_charAt_3b067 2 (some .char) : Cond) ∈ zc_tb := zc_tbI (by decide +kernel) (by decide +kernel)
theorem zjw_21 : (.initialized RJ1 : Cond) ∈ zc_tb := zc_tbI (by decide +kernel) (by decide +kernel)
theorem zjw_22 : (.methodLink RJ0 495 yJ1_charAt_3b067 : Cond) ∈ zc_tb := zc_tbI (by decide +kernel) (by decide +kernel)
theorem zjw_23 : (.static yJ1_charAt_3b067 : Cond) ∈ zc_tb := zc_tbI (by decide +kernel) (by decide +kernel)
theorem dJ0_coder_7d493_0 : decode cJ0_coder_7d493 0 = .ok (.getstatic 38, 3) := by decide +kernel
theorem dJ0_coder_7d493_3 : decode cJ0_coder_7d493 3 = .ok (.ifCond .eq 10, 3) := by decide +kernel
theorem dJ0_coder_7d493_6 : decode cJ0_coder_7d493 6 = .ok (.aload_n 0, 1) := by decide +kernel
theorem dJ0_coder_7d493_7 : decode cJ0_coder_7d493 7 = .ok (.getfield 15, 3) := by decide +kernel
theorem dJ0_coder_7d493_10 : decode cJ0_coder_7d493 10 = .ok (.goto 4, 3) := by decide +kernel
theorem dJ0_coder_7d493_14 : decode cJ0_coder_7d493 14 = .ok (.ireturn, 1) := by decide +kernel
set_option maxRecDepth 100000 in
set_option maxHeartbeats 4000000 in
theorem zj_coder {i : Nat} (hi : i < 13) {h : zM} (hM : zc_M h) (l : Launch) (D : va_G) (ad adV : Nat → Nat) (cA : Nat → ClassId) (A : Nat → Prop)  : Met l yJ0_coder_7d493 (zj_ws yJ0_coder_7d493 cJ0_coder_7d493 1 (some .byte)) { frames := 0, cells := 0, slots := 0, locals := 0 } (va_Pc [.ref (ad (1000 + i))] (zc_pre D ad adV cA A h)) (zc_Qc (zj_Q (some (.inl 0)) h) D ad cA A) 0 0 A := by
  refine zMetJ (cc := cJ0_coder_7d493) (maxL := 1) (ret := (some .byte)) (by decide +kernel) rfl ?_
  intro p e s m args below meth c s₁ B hml hv
  obtain ⟨rfl, hP, hK, hD, hX, hA⟩ := hv
  have hx := B.exec
  have hb := B.bytes
  have hr := B.returns
  have hlocks := B.notSynchronized
  have hts0 := atoms_spec (ws := zj_ws yJ0_coder_7d493 cJ0_coder_7d493 1 (some .byte)) B.pre
  have hts : ∀ w ∈ zc_tb, w.before [.ref (ad (1000 + i))].toArray s = true := fun w hw => hts0 w (List.mem_cons_of_mem _ hw)
  have hown : s.vm.findClass RJ0 = some m.cls := findClass_of_methodNamed B.named
  have hl := lv_entry ([.ref (ad (1000 + i))]) (n := 1) (Nat.le_of_ble_eq_true rfl)
  rw [lg_entry_eq]
  generalize (lg_sl ([.ref (ad (1000 + i))]) ++ List.replicate (1 - (lg_sl ([.ref (ad (1000 + i))])).length) Slot.unset).toArray = ls at hl ⊢
  have hl : lv_has ls 1 [(0, .ref (ad (1000 + i)))] := hl
  have hS : va_S A s.heap s.heap [] := va_S.rf
  refine va_gets hx hb hX.2.2.2.1 hS hown (hts _ zjw_0) (fun _ z => z) dJ0_coder_7d493_0 ?_
  refine lv_if_eq (tgt := 13) hx hb dJ0_coder_7d493_3 (by decide) (fun z => absurd z (by decide)) (fun _ => ?_)
  refine lv_aload_n hx hb dJ0_coder_7d493_6 rfl (lv_at hl 0 rfl) ?_
  refine vk_getf hx hb (hX.2.2.1.1 i hi).2.1 hS hown (hts _ zjw_1) (fun _ z => z) dJ0_coder_7d493_7 ?_
  refine lv_goto (tgt := 14) hx hb dJ0_coder_7d493_10 (by decide) ?_
  exact W.zret (v := 0) (ty := .byte) hx hb hr (by decide) (fun t ht hW => zj_end (rv := some (.inl 0)) hM (fun v hv => by cases hv; exact zc_i0) hP hD hK hS ht hW) hS.2.2 dJ0_coder_7d493_14 hlocks
theorem dJ0_isLatin1_aae02_0 : decode cJ0_isLatin1_aae02 0 = .ok (.getstatic 38, 3) := by decide +kernel
theorem dJ0_isLatin1_aae02_3 : decode cJ0_isLatin1_aae02 3 = .ok (.ifCond .eq 14, 3) := by decide +kernel
theorem dJ0_isLatin1_aae02_6 : decode cJ0_isLatin1_aae02 6 = .ok (.aload_n 0, 1) := by decide +kernel
theorem dJ0_isLatin1_aae02_7 : decode cJ0_isLatin1_aae02 7 = .ok (.getfield 15, 3) := by decide +kernel
theorem dJ0_isLatin1_aae02_10 : decode cJ0_isLatin1_aae02 10 = .ok (.ifCond .ne 7, 3) := by decide +kernel
theorem dJ0_isLatin1_aae02_13 : decode cJ0_isLatin1_aae02 13 = .ok (.iconst 1, 1) := by decide +kernel
theorem dJ0_isLatin1_aae02_14 : decode cJ0_isLatin1_aae02 14 = .ok (.goto 4, 3) := by decide +kernel
theorem dJ0_isLatin1_aae02_18 : decode cJ0_isLatin1_aae02 18 = .ok (.ireturn, 1) := by decide +kernel
set_option maxRecDepth 100000 in
set_option maxHeartbeats 4000000 in
theorem zj_isLatin1 {i : Nat} (hi : i < 13) {h : zM} (hM : zc_M h) (l : Launch) (D : va_G) (ad adV : Nat → Nat) (cA : Nat → ClassId) (A : Nat → Prop)  : Met l yJ0_isLatin1_aae02 (zj_ws yJ0_isLatin1_aae02 cJ0_isLatin1_aae02 1 (some .boolean)) { frames := 0, cells := 0, slots := 0, locals := 0 } (va_Pc [.ref (ad (1000 + i))] (zc_pre D ad adV cA A h)) (zc_Qc (zj_Q (some (.inl 1)) h) D ad cA A) 0 0 A := by
  refine zMetJ (cc := cJ0_isLatin1_aae02) (maxL := 1) (ret := (some .boolean)) (by decide +kernel) rfl ?_
  intro p e s m args below meth c s₁ B hml hv
  obtain ⟨rfl, hP, hK, hD, hX, hA⟩ := hv
  have hx := B.exec
  have hb := B.bytes
  have hr := B.returns
  have hlocks := B.notSynchronized
  have hts0 := atoms_spec (ws := zj_ws yJ0_isLatin1_aae02 cJ0_isLatin1_aae02 1 (some .boolean)) B.pre
  have hts : ∀ w ∈ zc_tb, w.before [.ref (ad (1000 + i))].toArray s = true := fun w hw => hts0 w (List.mem_cons_of_mem _ hw)
  have hown : s.vm.findClass RJ0 = some m.cls := findClass_of_methodNamed B.named
  have hl := lv_entry ([.ref (ad (1000 + i))]) (n := 1) (Nat.le_of_ble_eq_true rfl)
  rw [lg_entry_eq]
  generalize (lg_sl ([.ref (ad (1000 + i))]) ++ List.replicate (1 - (lg_sl ([.ref (ad (1000 + i))])).length) Slot.unset).toArray = ls at hl ⊢
  have hl : lv_has ls 1 [(0, .ref (ad (1000 + i)))] := hl
  have hS : va_S A s.heap s.heap [] := va_S.rf
  refine va_gets hx hb hX.2.2.2.1 hS hown (hts _ zjw_0) (fun _ z => z) dJ0_isLatin1_aae02_0 ?_
  refine lv_if_eq (tgt := 17) hx hb dJ0_isLatin1_aae02_3 (by decide) (fun z => absurd z (by decide)) (fun _ => ?_)
  refine lv_aload_n hx hb dJ0_isLatin1_aae02_6 rfl (lv_at hl 0 rfl) ?_
  refine vk_getf hx hb (hX.2.2.1.1 i hi).2.1 hS hown (hts _ zjw_1) (fun _ z => z) dJ0_isLatin1_aae02_7 ?_
  refine lv_if_ne (tgt := 17) hx hb dJ0_isLatin1_aae02_10 (by decide) (fun z => absurd rfl z) (fun _ => ?_)
  refine lv_iconst (v := 1) hx hb dJ0_isLatin1_aae02_13 (by decide) ?_
  refine lv_goto (tgt := 18) hx hb dJ0_isLatin1_aae02_14 (by decide) ?_
  exact W.zret (v := 1) (ty := .boolean) hx hb hr (by decide) (fun t ht hW => zj_end (rv := some (.inl 1)) hM (fun v hv => by cases hv; exact ⟨by omega, by omega⟩) hP hD hK hS ht hW) hS.2.2 dJ0_isLatin1_aae02_18 hlocks
theorem dJ3_checkIndex_8e157_0 : decode cJ3_checkIndex_8e157 0 = .ok (.iload_n 0, 1) := by decide +kernel
theorem dJ3_checkIndex_8e157_1 : decode cJ3_checkIndex_8e157 1 = .ok (.ifCond .lt 8, 3) := by decide +kernel
theorem dJ3_checkIndex_8e157_4 : decode cJ3_checkIndex_8e157 4 = .ok (.iload_n 0, 1) := by decide +kernel
theorem dJ3_checkIndex_8e157_5 : decode cJ3_checkIndex_8e157 5 = .ok (.iload_n 1, 1) := by decide +kernel
theorem dJ3_checkIndex_8e157_6 : decode cJ3_checkIndex_8e157 6 = .ok (.if_icmp .lt 10, 3) := by decide +kernel
theorem dJ3_checkIndex_8e157_16 : decode cJ3_checkIndex_8e157 16 = .ok (.iload_n 0, 1) := by decide +kernel
theorem dJ3_checkIndex_8e157_17 : decode cJ3_checkIndex_8e157 17 = .ok (.ireturn, 1) := by decide +kernel
set_option maxRecDepth 100000 in
set_option maxHeartbeats 4000000 in
theorem zj_pcheck {k n : Int} (hk : zc_i k) (hn : zc_i n) (h0 : 0 ≤ k) (h1 : k < n) {v2 : Value} (hv2 : v2 = .null ∨ ∃ a, v2 = .ref a) {h : zM} (hM : zc_M h) (l : Launch) (D : va_G) (ad adV : Nat → Nat) (cA : Nat → ClassId) (A : Nat → Prop)  : Met l yJ3_checkIndex_8e157 (zj_ws yJ3_checkIndex_8e157 cJ3_checkIndex_8e157 3 (some .int)) { frames := 0, cells := 0, slots := 0, locals := 0 } (va_Pc [.int (Int32.ofInt k), .int (Int32.ofInt n), v2] (zc_pre D ad adV cA A h)) (zc_Qc (zj_Q (some (.inl k)) h) D ad cA A) 0 0 A := by
  refine zMetJ (cc := cJ3_checkIndex_8e157) (maxL := 3) (ret := (some .int)) (by decide +kernel) rfl ?_
  intro p e s m args below meth c s₁ B hml hv
  obtain ⟨rfl, hP, hK, hD, hX, hA⟩ := hv
  have hx := B.exec
  have hb := B.bytes
  have hr := B.returns
  have hlocks := B.notSynchronized
  have hts0 := atoms_spec (ws := zj_ws yJ3_checkIndex_8e157 cJ3_checkIndex_8e157 3 (some .int)) B.pre
  have hts : ∀ w ∈ zc_tb, w.before [.int (Int32.ofInt k), .int (Int32.ofInt n), v2].toArray s = true := fun w hw => hts0 w (List.mem_cons_of_mem _ hw)
  have hown : s.vm.findClass RJ3 = some m.cls := findClass_of_methodNamed B.named
  have hl := lv_entry ([.int (Int32.ofInt k), .int (Int32.ofInt n), v2]) (n := 3) (by rcases hv2 with rfl | ⟨_, rfl⟩ <;> exact Nat.le_of_ble_eq_true rfl)
  rw [lg_entry_eq]
  generalize (lg_sl ([.int (Int32.ofInt k), .int (Int32.ofInt n), v2]) ++ List.replicate (3 - (lg_sl ([.int (Int32.ofInt k), .int (Int32.ofInt n), v2])).length) Slot.unset).toArray = ls at hl ⊢
  have hl : lv_has ls 3 [(0, .int (Int32.ofInt k)), (1, .int (Int32.ofInt n)), (2, v2)] := hl
  have hS : va_S A s.heap s.heap [] := va_S.rf
  refine lv_iload_n hx hb dJ3_checkIndex_8e157_0 rfl (lv_at hl 0 rfl) ?_
  refine lv_if_lt (tgt := 9) hx hb dJ3_checkIndex_8e157_1 (by decide) (fun z => absurd ((zc_lt0 hk).mp z) (by omega)) (fun _ => ?_)
  refine lv_iload_n hx hb dJ3_checkIndex_8e157_4 rfl (lv_at hl 0 rfl) ?_
  refine lv_iload_n hx hb dJ3_checkIndex_8e157_5 rfl (lv_at hl 1 rfl) ?_
  refine lv_icmp_lt (tgt := 16) hx hb dJ3_checkIndex_8e157_6 (by decide) (fun _ => ?_) (fun z => absurd ((zc_lt hk hn).mpr h1) z)
  refine lv_iload_n hx hb dJ3_checkIndex_8e157_16 rfl (lv_at hl 0 rfl) ?_
  exact W.iret (v := Int32.ofInt k) hx hb hr (fun t ht hW => zj_end (rv := some (.inl k)) hM (fun v hv => by cases hv; exact hk) hP hD hK hS ht hW) hS.2.2 dJ3_checkIndex_8e157_17 hlocks
theorem dJ0_length_8abf5_0 : decode cJ0_length_8abf5 0 = .ok (.aload_n 0, 1) := by decide +kernel
theorem dJ0_length_8abf5_1 : decode cJ0_length_8abf5 1 = .ok (.getfield 9, 3) := by decide +kernel
theorem dJ0_length_8abf5_4 : decode cJ0_length_8abf5 4 = .ok (.arraylength, 1) := by decide +kernel
theorem dJ0_length_8abf5_5 : decode cJ0_length_8abf5 5 = .ok (.aload_n 0, 1) := by decide +kernel
theorem dJ0_length_8abf5_6 : decode cJ0_length_8abf5 6 = .ok (.invokevirtual 335, 3) := by decide +kernel
theorem dJ0_length_8abf5_9 : decode cJ0_length_8abf5 9 = .ok (.ishr, 1) := by decide +kernel
theorem dJ0_length_8abf5_10 : decode cJ0_length_8abf5 10 = .ok (.ireturn, 1) := by decide +kernel
set_option maxRecDepth 100000 in
set_option maxHeartbeats 4000000 in
theorem zj_length {i : Nat} (hi : i < 13) {h : zM} (hM : zc_M h) (l : Launch) (D : va_G) (ad adV : Nat → Nat) (cA : Nat → ClassId) (A : Nat → Prop)  : Met l yJ0_length_8abf5 (zj_ws yJ0_length_8abf5 cJ0_length_8abf5 1 (some .int)) { frames := 1, cells := 0, slots := 0, locals := 21 } (va_Pc [.ref (ad (1000 + i))] (zc_pre D ad adV cA A h)) (zc_Qc (zj_Q (some (.inl (zc_lS.getD i 0 : Nat))) h) D ad cA A) 0 0 A := by
  refine zMetJ (cc := cJ0_length_8abf5) (maxL := 1) (ret := (some .int)) (by decide +kernel) rfl ?_
  intro p e s m args below meth c s₁ B hml hv
  obtain ⟨rfl, hP, hK, hD, hX, hA⟩ := hv
  have hx := B.exec
  have hb := B.bytes
  have hr := B.returns
  have hlocks := B.notSynchronized
  have hts0 := atoms_spec (ws := zj_ws yJ0_length_8abf5 cJ0_length_8abf5 1 (some .int)) B.pre
  have hts : ∀ w ∈ zc_tb, w.before [.ref (ad (1000 + i))].toArray s = true := fun w hw => hts0 w (List.mem_cons_of_mem _ hw)
  have hown : s.vm.findClass RJ0 = some m.cls := findClass_of_methodNamed B.named
  have hl := lv_entry ([.ref (ad (1000 + i))]) (n := 1) (Nat.le_of_ble_eq_true rfl)
  rw [lg_entry_eq]
  generalize (lg_sl ([.ref (ad (1000 + i))]) ++ List.replicate (1 - (lg_sl ([.ref (ad (1000 + i))])).length) Slot.unset).toArray = ls at hl ⊢
  have hl : lv_has ls 1 [(0, .ref (ad (1000 + i)))] := hl
  have hS : va_S A s.heap s.heap [] := va_S.rf
  have hlen : zc_lS.getD i 0 < 100 := by
    have : ∀ i, i < 13 → zc_lS.getD i 0 < 100 := by decide
    exact this i hi
  refine lv_aload_n hx hb dJ0_length_8abf5_0 rfl (lv_at hl 0 rfl) ?_
  refine vk_getf hx hb (hX.2.2.1.1 i hi).2.2.1 hS hown (hts _ zjw_2) (fun _ z => z) dJ0_length_8abf5_1 ?_
  refine va_tlen (v := Int32.ofInt (zc_lS.getD i 0 : Nat)) hx hb (hX.2.2.1.1 i hi).2.2.2 hS (zc_ofN _).symm dJ0_length_8abf5_4 ?_
  refine lv_aload_n hx hb dJ0_length_8abf5_5 rfl (lv_at hl 0 rfl) ?_
  refine zc_call (H0 := s.heap) (Qz := zj_Q (some (.inl 0)) h) (va_runV (Ts := zc_tb) (C := RJ0) (As := []) (rest := [.int (Int32.ofInt (zc_lS.getD i 0 : Nat))]) ⟨hx, hb, hml, hown, hts⟩ (zj_coder hi hM l D ad adV cA A) ⟨callB_of 0 hts (zc_goodIn (fun w hw => by
    rcases List.mem_cons.mp hw with rfl | hw
    · exact zjw_3
    · exact hw)) rfl rfl rfl (hts _ zjw_4) (hts _ zjw_5) ⟨by decide, by decide, by decide +kernel⟩ ⟨Nat.le_of_ble_eq_true rfl, Nat.le_of_ble_eq_true rfl⟩, (hts _ zjw_6), (hts _ zjw_7)⟩ ⟨zc_blind, vk_recv hX.2.2.1 hi hS, fun U hU hW => ⟨rfl, by rw [hU]; exact hP, va_K.moved hW.alike hK, hD, by rw [hU]; exact (hX.warm hW).kept hS.2.1, fun q hq => hA q (by rw [hU] at hq; exact Nat.le_trans hS.1 hq)⟩⟩ rfl rfl hl.1 rfl (by show 2 * 0 + _ ≤ 8; simp [Value.category]) dJ0_length_8abf5_6 ⟨Nat.zero_le _, Nat.zero_le _⟩) hS (fun rv h2 t H1 locs1 ht hvm hq hok hM2 hB hS => ?_)
  obtain ⟨rfl, hh⟩ := hq
  rw [hh] at hB
  obtain ⟨hP1, hK1, hD1⟩ := hB
  rw [ht] at hP1
  refine lv_ishr hx hb dJ0_length_8abf5_9 ?_
  have hz : zc_i (zc_lS.getD i 0 : Nat) := by unfold zc_i; omega
  have e1 : Int32.ofInt (zc_lS.getD i 0 : Nat) >>> (Int32.ofInt 0 &&& 31) = Int32.ofInt (zc_lS.getD i 0 : Nat) := by
    rw [zc_ofN]
    exact sb_shr0 _
  rw [e1]
  exact W.iret (v := Int32.ofInt (zc_lS.getD i 0 : Nat)) hx hb hr (fun t ht hW => zj_end (rv := some (.inl (zc_lS.getD i 0 : Nat))) hM (fun v hv => by cases hv; exact hz) hP1 hD1 hK hS ht hW) hS.2.2 dJ0_length_8abf5_10 hlocks
theorem dJ0_checkIndex_df160_0 : decode cJ0_checkIndex_df160 0 = .ok (.iload_n 0, 1) := by decide +kernel
theorem dJ0_checkIndex_df160_1 : decode cJ0_checkIndex_df160 1 = .ok (.iload_n 1, 1) := by decide +kernel
theorem dJ0_checkIndex_df160_2 : decode cJ0_checkIndex_df160 2 = .ok (.getstatic 1053, 3) := by decide +kernel
theorem dJ0_checkIndex_df160_5 : decode cJ0_checkIndex_df160 5 = .ok (.invokestatic 1059, 3) := by decide +kernel
theorem dJ0_checkIndex_df160_8 : decode cJ0_checkIndex_df160 8 = .ok (.pop, 1) := by decide +kernel
theorem dJ0_checkIndex_df160_9 : decode cJ0_checkIndex_df160 9 = .ok (.return_, 1) := by decide +kernel
set_option maxRecDepth 100000 in
set_option maxHeartbeats 4000000 in
theorem zj_scheck {k n : Int} (hk : zc_i k) (hn : zc_i n) (h0 : 0 ≤ k) (h1 : k < n) {h : zM} (hM : zc_M h) (l : Launch) (D : va_G) (ad adV : Nat → Nat) (cA : Nat → ClassId) (A : Nat → Prop)  : Met l yJ0_checkIndex_df160 (zj_ws yJ0_checkIndex_df160 cJ0_checkIndex_df160 2 none) { frames := 1, cells := 0, slots := 0, locals := 22 } (va_Pc [.int (Int32.ofInt k), .int (Int32.ofInt n)] (zc_pre D ad adV cA A h)) (zc_Qc (zj_Q none h) D ad cA A) 0 0 A := by
  refine zMetJ (cc := cJ0_checkIndex_df160) (maxL := 2) (ret := none) (by decide +kernel) rfl ?_
  intro p e s m args below meth c s₁ B hml hv
  obtain ⟨rfl, hP, hK, hD, hX, hA⟩ := hv
  have hx := B.exec
  have hb := B.bytes
  have hr := B.returns
  have hlocks := B.notSynchronized
  have hts0 := atoms_spec (ws := zj_ws yJ0_checkIndex_df160 cJ0_checkIndex_df160 2 none) B.pre
  have hts : ∀ w ∈ zc_tb, w.before [.int (Int32.ofInt k), .int (Int32.ofInt n)].toArray s = true := fun w hw => hts0 w (List.mem_cons_of_mem _ hw)
  have hown : s.vm.findClass RJ0 = some m.cls := findClass_of_methodNamed B.named
  have hl := lv_entry ([.int (Int32.ofInt k), .int (Int32.ofInt n)]) (n := 2) (Nat.le_of_ble_eq_true rfl)
  rw [lg_entry_eq]
  generalize (lg_sl ([.int (Int32.ofInt k), .int (Int32.ofInt n)]) ++ List.replicate (2 - (lg_sl ([.int (Int32.ofInt k), .int (Int32.ofInt n)])).length) Slot.unset).toArray = ls at hl ⊢
  have hl : lv_has ls 2 [(0, .int (Int32.ofInt k)), (1, .int (Int32.ofInt n))] := hl
  have hS : va_S A s.heap s.heap [] := va_S.rf
  obtain ⟨v2, hv2, hZ⟩ := hX.2.2.2.2
  refine lv_iload_n hx hb dJ0_checkIndex_df160_0 rfl (lv_at hl 0 rfl) ?_
  refine lv_iload_n hx hb dJ0_checkIndex_df160_1 rfl (lv_at hl 1 rfl) ?_
  refine va_gets hx hb hZ hS hown (hts _ zjw_8) (fun _ z => z) dJ0_checkIndex_df160_2 ?_
  refine zc_call (H0 := s.heap) (Qz := zj_Q (some (.inl k)) h) (va_runS (Ts := zc_tb) (As := [.int (Int32.ofInt k), .int (Int32.ofInt n), v2]) (rest := []) ⟨hx, hb, hml, hown, hts⟩ (zj_pcheck hk hn h0 h1 hv2 hM l D ad adV cA A) ⟨callB_of 3 hts (zc_goodIn (fun w hw => by
    rcases List.mem_cons.mp hw with rfl | hw
    · exact zjw_9
    · exact hw)) rfl rfl rfl (hts _ zjw_10) (hts _ zjw_11) ⟨by decide, by decide, by decide +kernel⟩ ⟨Nat.le_of_ble_eq_true rfl, Nat.le_of_ble_eq_true rfl⟩, (hts _ zjw_12)⟩ ⟨zc_blind, fun U hU hW => ⟨rfl, by rw [hU]; exact hP, va_K.moved hW.alike hK, hD, by rw [hU]; exact (hX.warm hW).kept hS.2.1, fun q hq => hA q (by rw [hU] at hq; exact Nat.le_trans hS.1 hq)⟩⟩ rfl rfl hl.1 rfl (by show 2 * 0 + _ ≤ 8; decide) dJ0_checkIndex_df160_5 ⟨Nat.zero_le _, Nat.zero_le _⟩) hS (fun rv h2 t H1 locs1 ht hvm hq hok hM2 hB hS => ?_)
  obtain ⟨rfl, hh⟩ := hq
  rw [hh] at hB
  obtain ⟨hP1, hK1, hD1⟩ := hB
  rw [ht] at hP1
  refine lv_pop hx hb dJ0_checkIndex_df160_8 rfl ?_
  exact W.vret hx hb hr (fun t ht hW => zj_end (rv := none) hM (fun v hv => by cases hv) hP1 hD1 hK hS ht hW) hS.2.2 dJ0_checkIndex_df160_9 hlocks
theorem dJ1_charAt_3b067_0 : decode cJ1_charAt_3b067 0 = .ok (.iload_n 1, 1) := by decide +kernel
theorem dJ1_charAt_3b067_1 : decode cJ1_charAt_3b067 1 = .ok (.aload_n 0, 1) := by decide +kernel
theorem dJ1_charAt_3b067_2 : decode cJ1_charAt_3b067 2 = .ok (.arraylength, 1) := by decide +kernel
theorem dJ1_charAt_3b067_3 : decode cJ1_charAt_3b067 3 = .ok (.invokestatic 9, 3) := by decide +kernel
theorem dJ1_charAt_3b067_6 : decode cJ1_charAt_3b067 6 = .ok (.aload_n 0, 1) := by decide +kernel
theorem dJ1_charAt_3b067_7 : decode cJ1_charAt_3b067 7 = .ok (.iload_n 1, 1) := by decide +kernel
theorem dJ1_charAt_3b067_8 : decode cJ1_charAt_3b067 8 = .ok (.baload, 1) := by decide +kernel
theorem dJ1_charAt_3b067_9 : decode cJ1_charAt_3b067 9 = .ok (.sipush 255, 3) := by decide +kernel
theorem dJ1_charAt_3b067_12 : decode cJ1_charAt_3b067 12 = .ok (.iand, 1) := by decide +kernel
theorem dJ1_charAt_3b067_13 : decode cJ1_charAt_3b067 13 = .ok (.i2c, 1) := by decide +kernel
theorem dJ1_charAt_3b067_14 : decode cJ1_charAt_3b067 14 = .ok (.ireturn, 1) := by decide +kernel
set_option maxRecDepth 100000 in
set_option maxHeartbeats 4000000 in
theorem zj_lcharAt {i : Nat} (hi : i < 13) {k : Int} (h0 : 0 ≤ k) (h1 : k < (zc_lS.getD i 0 : Nat)) {h : zM} (hM : zc_M h) (l : Launch) (D : va_G) (ad adV : Nat → Nat) (cA : Nat → ClassId) (A : Nat → Prop)  : Met l yJ1_charAt_3b067 (zj_ws yJ1_charAt_3b067 cJ1_charAt_3b067 2 (some .char)) { frames := 2, cells := 0, slots := 0, locals := 43 } (va_Pc [.ref (adV i), .int (Int32.ofInt k)] (zc_pre D ad adV cA A h)) (zc_Qc (zj_Q (some (.inl ((zc_bS.getD i []).getD k.toNat 0).toInt)) h) D ad cA A) 0 0 A := by
  refine zMetJ (cc := cJ1_charAt_3b067) (maxL := 2) (ret := (some .char)) (by decide +kernel) rfl ?_
  intro p e s m args below meth c s₁ B hml hv
  obtain ⟨rfl, hP, hK, hD, hX, hA⟩ := hv
  have hx := B.exec
  have hb := B.bytes
  have hr := B.returns
  have hlocks := B.notSynchronized
  have hts0 := atoms_spec (ws := zj_ws yJ1_charAt_3b067 cJ1_charAt_3b067 2 (some .char)) B.pre
  have hts : ∀ w ∈ zc_tb, w.before [.ref (adV i), .int (Int32.ofInt k)].toArray s = true := fun w hw => hts0 w (List.mem_cons_of_mem _ hw)
  have hown : s.vm.findClass RJ1 = some m.cls := findClass_of_methodNamed B.named
  have hl := lv_entry ([.ref (adV i), .int (Int32.ofInt k)]) (n := 2) (Nat.le_of_ble_eq_true rfl)
  rw [lg_entry_eq]
  generalize (lg_sl ([.ref (adV i), .int (Int32.ofInt k)]) ++ List.replicate (2 - (lg_sl ([.ref (adV i), .int (Int32.ofInt k)])).length) Slot.unset).toArray = ls at hl ⊢
  have hl : lv_has ls 2 [(0, .ref (adV i)), (1, .int (Int32.ofInt k))] := hl
  have hS : va_S A s.heap s.heap [] := va_S.rf
  have hlen : zc_lS.getD i 0 < 100 := by
    have : ∀ i, i < 13 → zc_lS.getD i 0 < 100 := by decide
    exact this i hi
  have hk : zc_i k := by unfold zc_i; omega
  have hz : zc_i (zc_lS.getD i 0 : Nat) := by unfold zc_i; omega
  refine lv_iload_n hx hb dJ1_charAt_3b067_0 rfl (lv_at hl 1 rfl) ?_
  refine lv_aload_n hx hb dJ1_charAt_3b067_1 rfl (lv_at hl 0 rfl) ?_
  refine va_tlen (v := Int32.ofInt (zc_lS.getD i 0 : Nat)) hx hb (hX.2.2.1.1 i hi).2.2.2 hS (zc_ofN _).symm dJ1_charAt_3b067_2 ?_
  refine zc_call (H0 := s.heap) (Qz := zj_Q none h) (va_runS (Ts := zc_tb) (As := [.int (Int32.ofInt k), .int (Int32.ofInt (zc_lS.getD i 0 : Nat))]) (rest := []) ⟨hx, hb, hml, hown, hts⟩ (zj_scheck hk hz h0 h1 hM l D ad adV cA A) ⟨callB_of 2 hts (zc_goodIn (fun w hw => by
    rcases List.mem_cons.mp hw with rfl | hw
    · exact zjw_13
    · exact hw)) rfl rfl rfl (hts _ zjw_4) (hts _ zjw_14) ⟨by decide, by decide, by decide +kernel⟩ ⟨Nat.le_of_ble_eq_true rfl, Nat.le_of_ble_eq_true rfl⟩, (hts _ zjw_15)⟩ ⟨zc_blind, fun U hU hW => ⟨rfl, by rw [hU]; exact hP, va_K.moved hW.alike hK, hD, by rw [hU]; exact (hX.warm hW).kept hS.2.1, fun q hq => hA q (by rw [hU] at hq; exact Nat.le_trans hS.1 hq)⟩⟩ rfl rfl hl.1 rfl (by show 2 * 0 + _ ≤ 8; decide) dJ1_charAt_3b067_3 ⟨Nat.zero_le _, Nat.zero_le _⟩) hS (fun rv h2 t H1 locs1 ht hvm hq hok hM2 hB hS => ?_)
  obtain ⟨rfl, hh⟩ := hq
  rw [hh] at hB
  obtain ⟨hP1, hK1, hD1⟩ := hB
  rw [ht] at hP1
  refine lv_aload_n hx hb dJ1_charAt_3b067_6 rfl (lv_at hl 0 rfl) ?_
  refine lv_iload_n hx hb dJ1_charAt_3b067_7 rfl (lv_at hl 1 rfl) ?_
  refine va_tb (v := .int ((zc_bS.getD i []).getD k.toNat 0)) hx hb (hX.2.2.1.1 i hi).2.2.2 hS (zc_in hk h0 h1) (by rw [zc_cl hk]) dJ1_charAt_3b067_8 ?_
  refine lv_sipush (v := 255) hx hb dJ1_charAt_3b067_9 (by decide) ?_
  refine lv_iand hx hb dJ1_charAt_3b067_12 ?_
  have hb8 : ∀ i, i < 13 → ∀ k, k < zc_lS.getD i 0 → (((zc_bS.getD i []).getD k 0 &&& 255).toUInt32 % 65536).toInt32 = (zc_bS.getD i []).getD k 0 ∧ narrow .char (.int ((zc_bS.getD i []).getD k 0)) = .int ((zc_bS.getD i []).getD k 0) := by decide +kernel
  have hb9 := hb8 i hi k.toNat (by omega)
  refine lv_i2c (v := (zc_bS.getD i []).getD k.toNat 0) hx hb dJ1_charAt_3b067_13 hb9.1 ?_
  have hv : zc_v ad (.inl ((zc_bS.getD i []).getD k.toNat 0).toInt) = .int ((zc_bS.getD i []).getD k.toNat 0) := by show Value.int (Int32.ofInt _) = _; rw [zc_oi]
  refine W.zret (v := (zc_bS.getD i []).getD k.toNat 0) (ty := .char) hx hb hr hb9.2 (fun t ht hW => ?_) hS.2.2 dJ1_charAt_3b067_14 hlocks
  have := zj_end (args := [.ref (adV i), .int (Int32.ofInt k)].toArray) (rv := some (.inl ((zc_bS.getD i []).getD k.toNat 0).toInt)) hM (fun v hv => by cases hv; exact zc_ri _) hP1 hD1 hK hS ht hW
  rw [Option.map_some, hv] at this
  exact this
theorem dJ0_charAt_5068e_0 : decode cJ0_charAt_5068e 0 = .ok (.aload_n 0, 1) := by decide +kernel
theorem dJ0_charAt_5068e_1 : decode cJ0_charAt_5068e 1 = .ok (.invokevirtual 492, 3) := by decide +kernel
theorem dJ0_charAt_5068e_4 : decode cJ0_charAt_5068e 4 = .ok (.ifCond .eq 12, 3) := by decide +kernel
theorem dJ0_charAt_5068e_7 : decode cJ0_charAt_5068e 7 = .ok (.aload_n 0, 1) := by decide +kernel
theorem dJ0_charAt_5068e_8 : decode cJ0_charAt_5068e 8 = .ok (.getfield 9, 3) := by decide +kernel
theorem dJ0_charAt_5068e_11 : decode cJ0_charAt_5068e 11 = .ok (.iload_n 1, 1) := by decide +kernel
theorem dJ0_charAt_5068e_12 : decode cJ0_charAt_5068e 12 = .ok (.invokestatic 495, 3) := by decide +kernel
theorem dJ0_charAt_5068e_15 : decode cJ0_charAt_5068e 15 = .ok (.ireturn, 1) := by decide +kernel
set_option maxRecDepth 100000 in
set_option maxHeartbeats 4000000 in
theorem zj_charAt {i : Nat} (hi : i < 13) {k : Int} (h0 : 0 ≤ k) (h1 : k < (zc_lS.getD i 0 : Nat)) {h : zM} (hM : zc_M h) (l : Launch) (D : va_G) (ad adV : Nat → Nat) (cA : Nat → ClassId) (A : Nat → Prop)  : Met l yJ0_charAt_5068e (zj_ws yJ0_charAt_5068e cJ0_charAt_5068e 2 (some .char)) { frames := 3, cells := 0, slots := 0, locals := 90 } (va_Pc [.ref (ad (1000 + i)), .int (Int32.ofInt k)] (zc_pre D ad adV cA A h)) (zc_Qc (zj_Q (some (.inl ((zc_bS.getD i []).getD k.toNat 0).toInt)) h) D ad cA A) 0 0 A := by
  refine zMetJ (cc := cJ0_charAt_5068e) (maxL := 2) (ret := (some .char)) (by decide +kernel) rfl ?_
  intro p e s m args below meth c s₁ B hml hv
  obtain ⟨rfl, hP, hK, hD, hX, hA⟩ := hv
  have hx := B.exec
  have hb := B.bytes
  have hr := B.returns
  have hlocks := B.notSynchronized
  have hts0 := atoms_spec (ws := zj_ws yJ0_charAt_5068e cJ0_charAt_5068e 2 (some .char)) B.pre
  have hts : ∀ w ∈ zc_tb, w.before [.ref (ad (1000 + i)), .int (Int32.ofInt k)].toArray s = true := fun w hw => hts0 w (List.mem_cons_of_mem _ hw)
  have hown : s.vm.findClass RJ0 = some m.cls := findClass_of_methodNamed B.named
  have hl := lv_entry ([.ref (ad (1000 + i)), .int (Int32.ofInt k)]) (n := 2) (Nat.le_of_ble_eq_true rfl)
  rw [lg_entry_eq]
  generalize (lg_sl ([.ref (ad (1000 + i)), .int (Int32.ofInt k)]) ++ List.replicate (2 - (lg_sl ([.ref (ad (1000 + i)), .int (Int32.ofInt k)])).length) Slot.unset).toArray = ls at hl ⊢
  have hl : lv_has ls 2 [(0, .ref (ad (1000 + i))), (1, .int (Int32.ofInt k))] := hl
  have hS : va_S A s.heap s.heap [] := va_S.rf
  refine lv_aload_n hx hb dJ0_charAt_5068e_0 rfl (lv_at hl 0 rfl) ?_
  refine zc_call (H0 := s.heap) (Qz := zj_Q (some (.inl 1)) h) (va_runV (Ts := zc_tb) (C := RJ0) (As := []) (rest := []) ⟨hx, hb, hml, hown, hts⟩ (zj_isLatin1 hi hM l D ad adV cA A) ⟨callB_of 0 hts (zc_goodIn (fun w hw => by
    rcases List.mem_cons.mp hw with rfl | hw
    · exact zjw_16
    · exact hw)) rfl rfl rfl (hts _ zjw_4) (hts _ zjw_17) ⟨by decide, by decide, by decide +kernel⟩ ⟨Nat.le_of_ble_eq_true rfl, Nat.le_of_ble_eq_true rfl⟩, (hts _ zjw_18), (hts _ zjw_19)⟩ ⟨zc_blind, vk_recv hX.2.2.1 hi hS, fun U hU hW => ⟨rfl, by rw [hU]; exact hP, va_K.moved hW.alike hK, hD, by rw [hU]; exact (hX.warm hW).kept hS.2.1, fun q hq => hA q (by rw [hU] at hq; exact Nat.le_trans hS.1 hq)⟩⟩ rfl rfl hl.1 rfl (by show 2 * 0 + _ ≤ 8; decide) dJ0_charAt_5068e_1 ⟨Nat.zero_le _, Nat.zero_le _⟩) hS (fun rv h2 t H1 locs1 ht hvm hq hok hM2 hB hS => ?_)
  obtain ⟨rfl, hh⟩ := hq
  rw [hh] at hB
  obtain ⟨hP1, hK1, hD1⟩ := hB
  rw [ht] at hP1
  refine lv_if_eq (tgt := 16) (x := 1) (rest := []) hx hb dJ0_charAt_5068e_4 (by decide) (fun z => absurd z (by decide)) (fun _ => ?_)
  refine lv_aload_n hx hb dJ0_charAt_5068e_7 rfl (lv_at hl 0 rfl) ?_
  refine vk_getf hx hb (hX.2.2.1.1 i hi).2.2.1 hS hown (hts _ zjw_2) (fun _ z => z) dJ0_charAt_5068e_8 ?_
  refine lv_iload_n hx hb dJ0_charAt_5068e_11 rfl (lv_at hl 1 rfl) ?_
  refine zc_call (H0 := s.heap) (Qz := zj_Q (some (.inl ((zc_bS.getD i []).getD k.toNat 0).toInt)) h) (va_runS (Ts := zc_tb) (As := [.ref (adV i), .int (Int32.ofInt k)]) (rest := []) ⟨hx, hb, hml, hown, hts⟩ (zj_lcharAt hi h0 h1 hM l D ad adV cA A) ⟨callB_of 2 hts (zc_goodIn (fun w hw => by
    rcases List.mem_cons.mp hw with rfl | hw
    · exact zjw_20
    · exact hw)) rfl rfl rfl (hts _ zjw_21) (hts _ zjw_22) ⟨by decide, by decide, by decide +kernel⟩ ⟨Nat.le_of_ble_eq_true rfl, Nat.le_of_ble_eq_true rfl⟩, (hts _ zjw_23)⟩ ⟨zc_blind, fun U hU hW => ⟨rfl, by rw [hU]; exact hP1, va_K.moved hW.alike hK, hD1, by rw [hU]; exact (hX.warm hW).kept hS.2.1, fun q hq => hA q (by rw [hU] at hq; exact Nat.le_trans hS.1 hq)⟩⟩ rfl rfl hl.1 rfl (by show 2 * 0 + _ ≤ 8; decide) dJ0_charAt_5068e_12 ⟨Nat.zero_le _, Nat.zero_le _⟩) hS (fun rv h2 t H1 locs1 ht hvm hq hok hM2 hB hS => ?_)
  obtain ⟨rfl, hh2⟩ := hq
  rw [hh2] at hB
  obtain ⟨hP2, hK2, hD2⟩ := hB
  rw [ht] at hP2
  have hb8 : ∀ i, i < 13 → ∀ k, k < zc_lS.getD i 0 → narrow .char (.int ((zc_bS.getD i []).getD k 0)) = .int ((zc_bS.getD i []).getD k 0) := by decide +kernel
  have hv : zc_v ad (.inl ((zc_bS.getD i []).getD k.toNat 0).toInt) = .int ((zc_bS.getD i []).getD k.toNat 0) := by show Value.int (Int32.ofInt _) = _; rw [zc_oi]
  show W p l e _ s m _ below meth c H1 locs1 0 0 _ (F0 m 15 ls [zc_v ad (.inl ((zc_bS.getD i []).getD k.toNat 0).toInt)])
  rw [hv]
  refine W.zret (v := (zc_bS.getD i []).getD k.toNat 0) (ty := .char) hx hb hr (hb8 i hi k.toNat (by omega)) (fun t ht hW => ?_) hS.2.2 dJ0_charAt_5068e_15 hlocks
  have := zj_end (args := [.ref (ad (1000 + i)), .int (Int32.ofInt k)].toArray) (rv := some (.inl ((zc_bS.getD i []).getD k.toNat 0).toInt)) hM (fun v hv => by cases hv; exact zc_ri _) hP2 hD2 hK hS ht hW
  rw [Option.map_some, hv] at this
  exact this
theorem zc_Qc_mono {Q Q2 : zQ} {D : va_G} {ad : Nat → Nat} {cA : Nat → ClassId} {A : Nat → Prop} (h : ∀ rv h, Q rv h → Q2 rv h) {a : Array Value} {st : State} {oc : Outcome} {t : State} (hq : zc_Qc Q D ad cA A a st oc t) : zc_Qc Q2 D ad cA A a st oc t := by
  obtain ⟨⟨rv, h2, h3, ⟨h4, h5, h6⟩, h7⟩, h8⟩ := hq
  exact ⟨⟨rv, h2, h3, ⟨h _ _ h4, h5, h6⟩, h7⟩, h8⟩
theorem zMet_mono {l : Launch} {y : MethodName} {ws : List Cond} {rm : Room} {Pc : Array Value → State → Prop} {Qc Qc2 : Array Value → State → Outcome → State → Prop} {mc ms : Nat} {free : Addr → Prop} (h : ∀ a st o t, Qc a st o t → Qc2 a st o t) (hM : Met l y ws rm Pc Qc mc ms free) : Met l y ws rm Pc Qc2 mc ms free := by
  intro p e ha hc hk s m args below hf happ hP hK
  obtain ⟨n, o, h1, h2, h3, h4, h5⟩ := hM p e ha hc hk s m args below hf happ hP hK
  exact ⟨n, o, h1, h2, h3, h _ _ _ _ h4, h5⟩
/-- String.length of a constant text -/
theorem s_202 {i : Nat} (hi : i < 13) {h : zM} {Q : zQ} (hq : Q (some (.inl (zc_lS.getD i 0 : Nat))) h) : zR 202 [.inr (.inr (1000 + i))] h Q := by
  refine ⟨Or.inr ⟨_, _, rfl, ?_⟩, fun _ hM l D ad adV cA A => ?_⟩
  · have : ∀ i, i < 13 → zx_rcv 202 (1000 + i) = true := by decide +kernel
    exact this i hi
  · refine zMet_mono (fun a st o t hz => zc_Qc_mono (fun rv h2 hr => ?_) hz) (zj_length hi hM l D ad adV cA A)
    rw [hr.1, hr.2]
    exact hq
/-- String.charAt of a constant text -/
theorem s_203 {i : Nat} (hi : i < 13) {k : Int} (h0 : 0 ≤ k) (h1 : k < (zc_lS.getD i 0 : Nat)) {h : zM} {Q : zQ} (hq : Q (some (.inl ((zc_bS.getD i []).getD k.toNat 0).toInt)) h) : zR 203 [.inr (.inr (1000 + i)), .inl k] h Q := by
  refine ⟨Or.inr ⟨_, _, rfl, ?_⟩, fun _ hM l D ad adV cA A => ?_⟩
  · have : ∀ i, i < 13 → zx_rcv 203 (1000 + i) = true := by decide +kernel
    exact this i hi
  · refine zMet_mono (fun a st o t hz => zc_Qc_mono (fun rv h2 hr => ?_) hz) (zj_charAt hi h0 h1 hM l D ad adV cA A)
    rw [hr.1, hr.2]
    exact hq
