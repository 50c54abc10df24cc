/-! THE LAW FROM ITS ENTRY -/
def zs_tms : List (String × Nat) := [("PointMaker$Reader", 107), ("PointMaker$Reader", 112), ("PointMaker$Reader", 114), ("PointMaker", 315), ("PointMaker", 317), ("PointMaker", 319), ("PointMaker", 321), ("PointMaker$Reader", 138), ("PointMaker$Reader", 140), ("PointMaker$Reader", 145), ("PointMaker$Letters", 75), ("PointMaker$Letters", 86), ("PointMaker$Letters", 88)]
def zs_tm (i : Nat) : Term := .string (zs_tms.getD i ("", 0)).1 (zs_tms.getD i ("", 0)).2
/-- where the start says that two texts are apart -/
def zs_np : List (List Nat) := [[0, 47, 55, 65, 76, 88, 101, 115, 130, 144, 178, 218, 238], [47, 0, 56, 66, 77, 89, 102, 116, 131, 145, 179, 219, 239], [55, 56, 0, 67, 78, 90, 103, 117, 132, 146, 180, 220, 240], [65, 66, 67, 0, 79, 91, 104, 118, 133, 147, 181, 221, 241], [76, 77, 78, 79, 0, 92, 105, 119, 134, 148, 182, 222, 242], [88, 89, 90, 91, 92, 0, 106, 120, 135, 149, 183, 223, 243], [101, 102, 103, 104, 105, 106, 0, 121, 136, 150, 184, 224, 244], [115, 116, 117, 118, 119, 120, 121, 0, 137, 151, 185, 225, 245], [130, 131, 132, 133, 134, 135, 136, 137, 0, 152, 186, 226, 246], [144, 145, 146, 147, 148, 149, 150, 151, 152, 0, 187, 227, 247], [178, 179, 180, 181, 182, 183, 184, 185, 186, 187, 0, 229, 249], [218, 219, 220, 221, 222, 223, 224, 225, 226, 227, 229, 0, 251], [238, 239, 240, 241, 242, 243, 244, 245, 246, 247, 249, 251, 0]]
abbrev zs_F : List Cond := flatC (Jvm.Cond.and given_1 narrow_1)
def zs_nv (i : Nat) : Term := .field (zs_tm i) "java/lang/String" "value" "[B"
theorem zs_1 : ∀ i, i < 13 → Cond.exactly (zs_tm i) "java/lang/String" ∈ zs_F := by decide +kernel
theorem zs_2 : ∀ i, i < 13 → Cond.eq (.field (zs_tm i) "java/lang/String" "coder" "B") (.int 0) ∈ zs_F := by decide +kernel
theorem zs_3 : ∀ i, i < 13 → Cond.arrayOf (zs_nv i) .byte ∈ zs_F := by decide +kernel
theorem zs_4 : ∀ i, i < 13 → Cond.eq (.length (zs_nv i)) (.int (Int32.ofNat (zc_lS.getD i 0))) ∈ zs_F := by decide +kernel
theorem zs_5 : ∀ i, i < 13 → ∀ j, j < zc_lS.getD i 0 → Cond.eq (.elem (zs_nv i) (.int (Int32.ofNat j))) (.int ((zc_bS.getD i []).getD j 0)) ∈ zs_F := by decide +kernel
def zs_n1 (i j : Nat) : Bool := match zs_F[(zs_np.getD i []).getD j 0]? with
  | some (Cond.not (Cond.eq (.string a k) (.string b m))) => (decide (a = (zs_tms.getD i ("", 0)).1) && decide (k = (zs_tms.getD i ("", 0)).2) && decide (b = (zs_tms.getD j ("", 0)).1) && decide (m = (zs_tms.getD j ("", 0)).2)) || (decide (a = (zs_tms.getD j ("", 0)).1) && decide (k = (zs_tms.getD j ("", 0)).2) && decide (b = (zs_tms.getD i ("", 0)).1) && decide (m = (zs_tms.getD i ("", 0)).2))
  | _ => false
theorem zs_n2 : ∀ i, i < 13 → ∀ j, j < 13 → i ≠ j → zs_n1 i j = true := by decide +kernel
theorem zs_6 (i : Nat) (hi : i < 13) (j : Nat) (hj : j < 13) (hij : i ≠ j) : (Cond.not (Cond.eq (zs_tm i) (zs_tm j)) ∈ zs_F ∨ Cond.not (Cond.eq (zs_tm j) (zs_tm i)) ∈ zs_F) := by
  have h := zs_n2 i hi j hj hij
  unfold zs_n1 at h
  split at h
  case h_2 => cases h
  rename_i a k b m hk
  simp only [Bool.or_eq_true, Bool.and_eq_true, decide_eq_true_eq] at h
  have hm := List.mem_of_getElem? hk
  rcases h with ⟨⟨⟨h1, h2⟩, h3⟩, h4⟩ | ⟨⟨⟨h1, h2⟩, h3⟩, h4⟩
  · rw [h1, h2, h3, h4] at hm
    exact Or.inl hm
  · rw [h1, h2, h3, h4] at hm
    exact Or.inr hm
theorem zs_7 : Cond.eq (.static "java/lang/String" "COMPACT_STRINGS" "Z") (.int 1) ∈ zs_F ∧ Cond.isRef (.static "jdk/internal/util/Preconditions" "SIOOBE_FORMATTER" "Ljava/util/function/BiFunction;") ∈ zs_F := by decide +kernel
theorem zs_8 : Cond.laysStatic "java/lang/String" "COMPACT_STRINGS" "Z" ∈ lw_tbl ∧ Cond.laysStatic "jdk/internal/util/Preconditions" "SIOOBE_FORMATTER" "Ljava/util/function/BiFunction;" ∈ lw_tbl ∧ Cond.initialized "java/lang/String" ∈ lw_tbl ∧ Cond.initialized "jdk/internal/util/Preconditions" ∈ lw_tbl := by decide +kernel
theorem zs_9 : ∀ q ∈ zc_sr, Cond.stringRef q.1 q.2.1 q.2.2.1 ∈ lw_tbl ∧ q.2.2.2 < 13 ∧ (Term.string q.1 q.2.1 = zs_tm q.2.2.2 ∨ Cond.eq (zs_tm q.2.2.2) (.string q.1 q.2.1) ∈ zs_F ∨ Cond.eq (.string q.1 q.2.1) (zs_tm q.2.2.2) ∈ zs_F) := by decide +kernel
theorem zs_10 : Cond.arrayClass .int ∈ lw_tbl ∧ Cond.arrayClass .byte ∈ lw_tbl ∧ Cond.arrayClass .boolean ∈ lw_tbl ∧ Cond.arrayOver (.object "PointMaker$Program") ∈ lw_tbl ∧ Cond.arrayOver (.object "PointMaker$Sheet") ∈ lw_tbl := by decide +kernel
theorem zs_X {args : Array Value} {s : State} (hts : ∀ w ∈ lw_tbl, w.before args s = true) (hgv : (Jvm.Cond.and given_1 narrow_1).before args s = true) : ∃ adK adV : Nat → Nat, ∀ ad : Nat → Nat, (∀ i, i < 13 → ad (1000 + i) = adK i) → zc_X ad adV (fun q => s.heap.size ≤ q) s s.heap := by
  have hs := flat_of_before _ hgv
  have hA : ∀ a : Nat, a < s.heap.size → ¬ (fun q => s.heap.size ≤ q) a := fun a h => Nat.not_le.mpr h
  have hne : ∀ i j : Nat, i < 13 → j < 13 → i ≠ j → (Cond.not (Cond.eq (zs_tm i) (zs_tm j))).before args s = true ∨ (Cond.not (Cond.eq (zs_tm j) (zs_tm i))).before args s = true := by
    intro i j hi hj hij
    rcases zs_6 i hi j hj hij with h | h
    · exact Or.inl (hs _ h)
    · exact Or.inr (hs _ h)
  obtain ⟨adK, adV, hS, hK⟩ := vk_Sof (args := args) (s := s) (N := 13) (tm := zs_tm) (len := zc_lS) (byt := zc_bS) (A := fun q => s.heap.size ≤ q) (by decide +kernel) (fun i hi => hs _ (zs_1 i hi)) (fun i hi => hs _ (zs_2 i hi)) (fun i hi => hs _ (zs_3 i hi)) (fun i hi => hs _ (zs_4 i hi)) (fun i hi j hj => hs _ (zs_5 i hi j hj)) hne hA
  refine ⟨adK, adV, fun ad had => ⟨fun w hw => ?_, fun q hq => ?_, ?_, ?_, ?_⟩⟩
  · have hw2 := List.mem_filter.mp hw
    have hn := hw2.2
    refine va_Nw.of ?_ (hts w hw2.1)
    cases w <;> first | rfl | (simp [zc_isN] at hn)
  · obtain ⟨h1, h2, h3⟩ := zs_9 q hq
    have hev := hK _ h2
    refine vk_R.of (hts _ h1) ?_
    rw [had _ h2]
    rcases h3 with h3 | h3 | h3
    · rw [h3]
      exact hev
    · obtain ⟨w, e1, e2⟩ := Cond.eq_one (show (Cond.eq (zs_tm q.2.2.2) (.string q.1 q.2.1)).holds args s none s [] = true from hs _ h3)
      rw [hev] at e1
      cases e1
      exact e2
    · obtain ⟨w, e1, e2⟩ := Cond.eq_one (show (Cond.eq (.string q.1 q.2.1) (zs_tm q.2.2.2)).holds args s none s [] = true from hs _ h3)
      rw [hev] at e2
      cases e2
      exact e1
  · refine ⟨fun i hi => ?_, fun i j hi hj hij => ?_⟩
    · have := hS.1 i hi
      show va_O _ (ad (1000 + i)) _ _ _ ∧ va_OF _ _ _ _ (ad (1000 + i)) _ _ _ ∧ va_OF _ _ _ _ (ad (1000 + i)) _ _ _ ∧ _
      rw [had i hi]
      exact this
    · refine hS.2 i j hi hj ?_
      have hij : ad (1000 + i) = ad (1000 + j) := hij
      rw [had i hi, had j hj] at hij
      exact hij
  · exact va_Zof (hts _ zs_8.1) (hts _ zs_8.2.2.1) (va_eqi (hs _ zs_7.1)) hA
  · rcases va_Zqof (hts _ zs_8.2.1) (hts _ zs_8.2.2.2) (hs _ zs_7.2) hA with h | ⟨t, h⟩
    · exact ⟨_, Or.inl rfl, h⟩
    · exact ⟨_, Or.inr ⟨t, rfl⟩, h⟩
theorem zs_11 : Cond.instantiable RX0 2 ∈ lw_tbl ∧ Cond.instantiable RX1 2 ∈ lw_tbl ∧ Cond.instantiable RX2 8 ∈ lw_tbl ∧ Cond.instantiable RX3 3 ∈ lw_tbl ∧ Cond.instantiable RX4 8 ∈ lw_tbl ∧ Cond.instantiable RX5 6 ∈ lw_tbl ∧ Cond.instantiable RX6 3 ∈ lw_tbl ∧ Cond.instantiable RX7 2 ∈ lw_tbl ∧ Cond.instantiable RX8 9 ∈ lw_tbl ∧ Cond.instantiable RX9 17 ∈ lw_tbl ∧ Cond.instantiable RX10 46 ∈ lw_tbl := by decide +kernel
/-- the classes, the rows' classes, as the tables have them -/
theorem zs_K {args : Array Value} {s : State} (hts : ∀ w ∈ lw_tbl, w.before args s = true) : ∃ (D : va_G) (cA : Nat → ClassId), va_K D vwCl (zc_tys cA) s := by
  obtain ⟨c0, i0, hk0⟩ := u_known (C := RX0) (T := TX0) (N := 2) (n := 2) hts (fun w hw => (zc_u0 w hw).1) (hts _ zs_11.1)
  obtain ⟨c1, i1, hk1⟩ := u_known (C := RX1) (T := TX1) (N := 2) (n := 2) hts (fun w hw => (zc_u1 w hw).1) (hts _ zs_11.2.1)
  obtain ⟨c2, i2, hk2⟩ := u_known (C := RX2) (T := TX2) (N := 8) (n := 8) hts (fun w hw => (zc_u2 w hw).1) (hts _ zs_11.2.2.1)
  obtain ⟨c3, i3, hk3⟩ := u_known (C := RX3) (T := TX3) (N := 3) (n := 3) hts (fun w hw => (zc_u3 w hw).1) (hts _ zs_11.2.2.2.1)
  obtain ⟨c4, i4, hk4⟩ := u_known (C := RX4) (T := TX4) (N := 8) (n := 8) hts (fun w hw => (zc_u4 w hw).1) (hts _ zs_11.2.2.2.2.1)
  obtain ⟨c5, i5, hk5⟩ := u_known (C := RX5) (T := TX5) (N := 6) (n := 6) hts (fun w hw => (zc_u5 w hw).1) (hts _ zs_11.2.2.2.2.2.1)
  obtain ⟨c6, i6, hk6⟩ := u_known (C := RX6) (T := TX6) (N := 3) (n := 3) hts (fun w hw => (zc_u6 w hw).1) (hts _ zs_11.2.2.2.2.2.2.1)
  obtain ⟨c7, i7, hk7⟩ := u_known (C := RX7) (T := TX7) (N := 2) (n := 2) hts (fun w hw => (zc_u7 w hw).1) (hts _ zs_11.2.2.2.2.2.2.2.1)
  obtain ⟨c8, i8, hk8⟩ := u_known (C := RX8) (T := TX8) (N := 9) (n := 9) hts (fun w hw => (zc_u8 w hw).1) (hts _ zs_11.2.2.2.2.2.2.2.2.1)
  obtain ⟨c9, i9, hk9⟩ := u_known (C := RX9) (T := TX9) (N := 17) (n := 17) hts (fun w hw => (zc_u9 w hw).1) (hts _ zs_11.2.2.2.2.2.2.2.2.2.1)
  obtain ⟨c10, i10, hk10⟩ := u_known (C := RX10) (T := TX10) (N := 46) (n := 46) hts (fun w hw => (zc_u10 w hw).1) (hts _ zs_11.2.2.2.2.2.2.2.2.2.2)
  obtain ⟨a1, b1, d1, e1, f1, g1⟩ := Cond.arrayClass_spec (show (Cond.arrayClass .int).holds args s none s [] = true from hts _ zs_10.1)
  obtain ⟨a2, b2, d2, e2, f2, g2⟩ := Cond.arrayClass_spec (show (Cond.arrayClass .byte).holds args s none s [] = true from hts _ zs_10.2.1)
  obtain ⟨a3, b3, d3, e3, f3, g3⟩ := Cond.arrayClass_spec (show (Cond.arrayClass .boolean).holds args s none s [] = true from hts _ zs_10.2.2.1)
  obtain ⟨q4, a4, b4, e4, d4, f4, g4, h4⟩ := Cond.arrayOver_spec (show (Cond.arrayOver (.object "PointMaker$Program")).holds args s none s [] = true from hts _ zs_10.2.2.2.1)
  obtain ⟨q5, a5, b5, e5, d5, f5, g5, h5⟩ := Cond.arrayOver_spec (show (Cond.arrayOver (.object "PointMaker$Sheet")).holds args s none s [] = true from hts _ zs_10.2.2.2.2)
  refine ⟨(fun k => if k = 0 then c0 else if k = 1 then c1 else if k = 2 then c2 else if k = 3 then c3 else if k = 4 then c4 else if k = 5 then c5 else if k = 6 then c6 else if k = 7 then c7 else if k = 8 then c8 else if k = 9 then c9 else c10, fun k => if k = 0 then i0 else if k = 1 then i1 else if k = 2 then i2 else if k = 3 then i3 else if k = 4 then i4 else if k = 5 then i5 else if k = 6 then i6 else if k = 7 then i7 else if k = 8 then i8 else if k = 9 then i9 else i10), fun k => if k = 2 then a2 else if k = 3 then a3 else if k = 4 then a4 else if k = 5 then a5 else a1, ?_, ?_⟩
  · intro k q hq
    match k, hq with
    | 0, hq => cases hq; exact hk0
    | 1, hq => cases hq; exact hk1
    | 2, hq => cases hq; exact hk2
    | 3, hq => cases hq; exact hk3
    | 4, hq => cases hq; exact hk4
    | 5, hq => cases hq; exact hk5
    | 6, hq => cases hq; exact hk6
    | 7, hq => cases hq; exact hk7
    | 8, hq => cases hq; exact hk8
    | 9, hq => cases hq; exact hk9
    | 10, hq => cases hq; exact hk10
    | k + 11, hq => simp at hq
  · intro k q hq
    match k, hq with
    | 0, hq => cases hq; exact ⟨fun n z => ⟨fun k h => (by cases h), b1, f1, d1, g1⟩, e1⟩
    | 1, hq => cases hq; exact ⟨fun n z => ⟨fun k h => (by cases h), b1, f1, d1, g1⟩, e1⟩
    | 2, hq => cases hq; exact ⟨fun n z => ⟨fun k h => (by cases h), b2, f2, d2, g2⟩, e2⟩
    | 3, hq => cases hq; exact ⟨fun n z => ⟨fun k h => (by cases h), b3, f3, d3, g3⟩, e3⟩
    | 4, hq => cases hq; exact ⟨fun n z => ⟨fun k h => (by cases h), b4, f4, q4, g4⟩, b4, q4, f4, g4, e4, h4⟩
    | 5, hq => cases hq; exact ⟨fun n z => ⟨fun k h => (by cases h), b5, f5, q5, g5⟩, b5, q5, f5, g5, e5, h5⟩
    | k + 6, hq => simp [zc_tys] at hq
theorem dl_0 : decode code 0 = .ok (.new 7, 3) := by decide +kernel
theorem dl_3 : decode code 3 = .ok (.dup, 1) := by decide +kernel
theorem dl_4 : decode code 4 = .ok (.invokespecial 9, 3) := by decide +kernel
theorem dl_7 : decode code 7 = .ok (.astore_n 1, 1) := by decide +kernel
theorem dl_8 : decode code 8 = .ok (.new 10, 3) := by decide +kernel
theorem dl_11 : decode code 11 = .ok (.dup, 1) := by decide +kernel
theorem dl_12 : decode code 12 = .ok (.invokespecial 12, 3) := by decide +kernel
theorem dl_15 : decode code 15 = .ok (.astore_n 2, 1) := by decide +kernel
theorem dl_16 : decode code 16 = .ok (.iconst 0, 1) := by decide +kernel
theorem dl_17 : decode code 17 = .ok (.istore_n 3, 1) := by decide +kernel
theorem zs_12 : zk_w 108 (.classLink R_law 7 RX9) = true ∧ zk_w 1000 (.classLink R_law 10 RX10) = true ∧ zk_w 110 (.methodLink R_law 9 (zb_y 9)) = true ∧ zk_w 1002 (.methodLink R_law 12 (zb_y 10)) = true := by decide +kernel
theorem zs_13 : Cond.initialized RX9 ∈ lw_tbl ∧ Cond.initialized RX10 ∈ lw_tbl := by decide +kernel
def zs_c (a : Nat) : Bool :=
  zk_w (zb_mt a).2.2.2.2.2.2.2.1 (.code (zb_y a) (zb_by a) (zb_ml a) none) && zk_w (zb_mt a).2.2.2.2.2.2.2.2.1 (.instanceMethod (zb_y a)) && zk_w (zb_mt a).2.2.2.2.2.2.2.2.2.2 (.initialized (zb_own a)) &&
  decide ((zb_rm a).frames + 1 ≤ room_1.frames) && decide (8 + (zb_ml a + 11) + (zb_rm a).locals ≤ room_1.locals) && decide ((parseMethodDescriptor (zb_y a).desc).map (fun d => d.parameters.length) = some 0) && decide (zb_own a ≠ "java/lang/invoke/MethodHandle") && decide (zb_own a ≠ "java/lang/invoke/VarHandle") && decide ((zb_y a).name = "<init>")
theorem zs_14 : zs_c 9 = true ∧ zs_c 10 = true := by decide +kernel
theorem zs_15 : zb_mc 9 = 83 ∨ zb_mc 9 + zb_mc 10 + 2 ≤ 600000 := by decide +kernel
theorem zs_16 : 1 + zb_mc 9 + 1 + zb_mc 10 ≤ 600000 ∧ 17 + zb_ms 9 + 46 + zb_ms 10 ≤ 7302250 := by decide +kernel
section ZG
variable {p : Program} {l : Launch} {e : Env} {s : State} {m : MethodId} {below : List Frame} {meth : Method} {c : Code} {D : va_G} {cA : Nat → ClassId} {b : Nat} {Q : State → Prop} {cells slots : Nat}
/-- the law calls a constructor -/
theorem zs_call {a idx kw pc r : Nat} {ad : Nat → Nat} {X Y : zbX} {H : Heap} {locs : List Loc} {ls : Array Slot} {rest : List Value} (hx : p.tables.exec = Jvm.exec) (hb : c.code = code) (hml : c.maxLocals = 4) (hown : s.vm.findClass R_law = some m.cls) (hts : ∀ w ∈ lw_tbl, w.before #[Value.ref b] s = true) (hK : va_K D vwCl (zc_tys cA) s) (hX : zb_X s) (hP : va_P D vwCl (zb_ws ad cA 0 X) H) (hD : va_D (fun q => s.heap.size ≤ q) (zb_ws ad cA 0 X)) (hS : va_S (fun q => s.heap.size ≤ q) s.heap H locs) (hls : ls.size = 4) (hwf : zb_wf X) (hr : r < X.length) (hrun : zb_call 5 a [.inr (.inr r)] X = some Y) (hc : zs_c a = true) (hw : zk_w kw (.methodLink R_law idx (zb_y a)) = true) (hrest : (rest.map fun v : Value => v.category).sum ≤ 8) (hcl : cells + zb_mc a ≤ room_1.cells) (hsl : slots + zb_ms a ≤ room_1.slots) (hd : decode code pc = .ok (.invokespecial idx, 3))
    (kk : ∀ (ad2 : Nat → Nat) (H1 : Heap) (locs1 : List Loc), (∀ k, k < X.length → ad2 k = ad k) → zb_wf Y → va_P D vwCl (zb_ws ad2 cA 0 Y) H1 → va_D (fun q => s.heap.size ≤ q) (zb_ws ad2 cA 0 Y) → va_S (fun q => s.heap.size ≤ q) s.heap H1 locs1 → W p l e room_1 s m #[Value.ref b] below meth c H1 locs1 (cells + zb_mc a) (slots + zb_ms a) Q (F0 m (pc + 3) ls rest)) : W p l e room_1 s m #[Value.ref b] below meth c H locs cells slots Q (F0 m pc ls (Value.ref (ad r) :: rest)) := by
  have hM := zd_call 5 a [.inr (.inr r)] X Y hrun (fun v hv => by rw [List.mem_singleton.mp hv]; exact hr) hwf l D ad cA (fun q => s.heap.size ≤ q)
  have htb : ∀ w ∈ zc_tb, w.before #[Value.ref b] s = true := fun w hw => hts w (List.mem_filter.mp hw).1
  simp only [zs_c, Bool.and_eq_true, decide_eq_true_eq] at hc
  obtain ⟨⟨⟨⟨⟨⟨⟨⟨k1, k2⟩, k4⟩, k5⟩, k6⟩, k7⟩, k8⟩, k9⟩, k10⟩ := hc
  have hws : ∀ w ∈ zb_wsj a, w ∈ zc_tb := by
    intro w hw
    rcases List.mem_cons.mp hw with rfl | hw
    · exact zk_w_in k1
    · exact hw
  have hp : PreS s H (va_Pc ([Sum.inr (Sum.inr r)].map (zc_v ad)) (zb_pre D ad cA (fun q => s.heap.size ≤ q) X)) [Value.ref (ad r)] := ⟨zb_blind, fun U hU hW => ⟨rfl, by rw [hU]; exact hP, va_K.moved hW.alike hK, hD, hX.warm hW, fun q hq => by rw [hU] at hq; exact Nat.le_trans hS.1 hq⟩⟩
  have hrn := va_runI (l := l) (e := e) (p := p) (R := room_1) (below := below) (meth := meth) (locs := locs) (cells := cells) (slots := slots) (g := F0 m pc ls (Value.ref (ad r) :: rest)) (As := []) (rest := rest) (y := zb_y a) (bytes := zb_by a) (maxL := zb_ml a) (ws := zb_wsj a) (rm := zb_rm a) (Ts := zc_tb) (own := R_law) (n := 0) (nL := 4) ⟨hx, hb, hml, hown, htb⟩ hM ⟨callB_of 0 htb (zc_goodIn hws) rfl rfl rfl (htb _ (zk_w_in k4)) (htb _ (zk_w_in hw)) ⟨k8, k9, k7⟩ ⟨k5, k6⟩, k10, htb _ (zk_w_in k2)⟩ hp rfl rfl hls rfl (by show 2 * 0 + _ ≤ 8; omega) hd ⟨hcl, hsl⟩
  intro T hT XX
  obtain ⟨v, st₀, t, T', Lc, h0, X', hL, e1, e2, ⟨⟨hv, ad2, hp1, hp2, hp3, hp4, hp5, hp6⟩, hz, hkk⟩, st⟩ := hrn T hT XX
  cases hv
  rw [h0] at hz hkk
  obtain ⟨t2, a1, b1⟩ := kk ad2 T'.heap (locs ++ Lc) hp1 hp2 (by rw [e1]; exact hp4) hp6 ⟨Nat.le_trans hS.1 (by rw [e1]; exact hz), fun q h1 h2 => by rw [e1, hkk q (Nat.lt_of_lt_of_le h1 hS.1) h2]; exact hS.2.1 q h1 h2, fun q hq => by
      rcases List.mem_append.mp hq with h | h
      · exact hS.2.2 q h
      · exact hL q h⟩ T' rfl X'
  exact ⟨t2, st t2 a1, b1⟩
end ZG
set_option maxHeartbeats 4000000 in
set_option maxRecDepth 100000 in
/-- THE LAW, from its entry, over any invariant that holds at first and that every pair of calls keeps -/
theorem zw_start {Inv : zM → Prop} (hI : Inv zx_h0) (hp : ∀ q ∈ zl_cases, zPair Inv q.2.2.1 q.2.2.2 q.2.1) {p : Program} {e : Env} {s : State} {m : MethodId} {below : List Frame} {meth : Method} {c : Code} (l : Launch) (hflags : l.flags = flags0) {b L : Nat} {xs : Nat → Int32} (hL : L ≤ 2560) (C0 : lw_At p s m meth c b L xs) : W p l e room_1 s m #[Value.ref b] below meth c s.heap [] 0 0 (lw_Z below #[Value.ref b] s) (entryFrame m ([Value.ref b] : List Value).toArray 4) := by
  obtain ⟨hx, hb, hr, hml, hown, hts, hXs, hbl, hlocks, hgv⟩ := id C0
  obtain ⟨adK, adV, hZ⟩ := zs_X hts hgv
  obtain ⟨D, cA, hK⟩ := zs_K hts
  have hA : ∀ q : Nat, s.heap.size ≤ q → (fun q : Nat => s.heap.size ≤ q) q := fun _ h => h
  have hzX : zb_X s := by
    have h0 := (hZ (fun r => adK (r - 1000)) (fun i _ => by show adK (1000 + i - 1000) = _; rw [Nat.add_sub_cancel_left])).1
    exact ⟨h0, va_AO.of (hts _ zs_10.2.2.2.1), va_AO.of (hts _ zs_10.2.2.2.2)⟩
  have hw12 := zs_12
  have hS0 : va_S (fun q : Nat => s.heap.size ≤ q) s.heap s.heap [] := va_S.rf
  have hP0 : va_P D vwCl [] s.heap := fun k q h => by simp at h
  have hD0 : va_D (fun q : Nat => s.heap.size ≤ q) [] := ⟨fun i j p q h => by simp at h, fun k q h => by simp at h⟩
  have hl := lv_entry ([.ref b]) (n := 4) (Nat.le_of_ble_eq_true rfl)
  rw [lg_entry_eq]
  generalize (lg_sl ([.ref b]) ++ List.replicate (4 - (lg_sl ([.ref b])).length) Slot.unset).toArray = ls at hl ⊢
  have hl : lv_has ls 4 [(0, .ref b)] := hl
  have htb : ∀ {k : Nat} {w : Cond}, zk_w k w = true → w.before #[Value.ref b] s = true := fun h => hts _ (List.mem_filter.mp (zk_w_in h)).1
  obtain ⟨ty9, hty9, hdf9⟩ := zb_dv 9 (by decide) (RX9, TX9, 17) rfl
  obtain ⟨ty10, hty10, hdf10⟩ := zb_dv 10 (by decide) (RX10, TX10, 46) rfl
  refine va_new (fs := (zb_df 9).map (zb_val id)) (ci := 9) (C := RX9) (T := TX9) (N := 17) hx hb hts (fun w hw => (zc_u9 w hw).1) ty9 hty9 hown (htb hw12.1) (hts _ zs_11.2.2.2.2.2.2.2.2.2.1) (hts _ zs_13.1) hK hP0 hD0 hS0 hA rfl (hdf9 id) (Nat.le_of_ble_eq_true rfl) (Nat.le_of_ble_eq_true rfl) dl_0 (fun q0 H hP hD hS => ?_)
  have eqf : (zb_df 9).map (zb_val id) = (zb_df 9).map (zb_val (fun _ => q0)) := rfl
  rw [eqf] at hP hD
  refine lv_dup hx hb dl_3 rfl ?_
  have h16 := zs_16
  refine zs_call (a := 9) (r := 0) (ad := fun _ => q0) (X := [(0, 9, zb_df 9, [])]) (rest := [Value.ref q0]) hx hb hml hown hts hK hzX hP hD hS hl.1 (by
    intro cc hcc v hv
    rw [List.mem_singleton.mp hcc] at hv
    have h0 : ∀ o ∈ zb_df 9, o = none ∨ o = some (.inl 0) := by decide +kernel
    rcases h0 _ hv with h | h
    · cases h
    · cases h
      exact zc_i0) (by decide) zb_run1 zs_14.1 hw12.2.2.1 (Nat.le_of_ble_eq_true rfl) (by show 1 + _ ≤ 600000; omega) (by show 17 + _ ≤ 7302250; omega) dl_4 (fun ad2 H1 locs1 had hwf hP hD hS => ?_)
  refine lv_astore_n (lv' := [(1, .ref q0), (0, .ref b)]) hx hb dl_7 rfl hl (by decide) rfl (fun ls hl => ?_)
  have hlen : (zb_X1.take zb_mid).length = zb_mid := by decide +kernel
  refine va_new (fs := (zb_df 10).map (zb_val ad2)) (ci := 10) (C := RX10) (T := TX10) (N := 46) hx hb hts (fun w hw => (zc_u10 w hw).1) ty10 hty10 hown (htb hw12.2.1) (hts _ zs_11.2.2.2.2.2.2.2.2.2.2) (hts _ zs_13.2) hK hP hD hS hA rfl (hdf10 ad2) (by show 0 + 1 + _ + 1 ≤ 600000; omega) (by show 0 + 17 + _ + 46 ≤ 7302250; omega) dl_8 (fun q1 H2 hP hD hS => ?_)
  have hokC : zb_okC (zb_X1.take zb_mid).length (0, 10, zb_df 10, []) := by
    intro v hv
    have h0 : ∀ o ∈ zb_df 10, o = none ∨ o = some (.inl 0) := by decide +kernel
    rcases h0 _ hv with h | h
    · cases h
    · cases h
      exact zc_i0
  have he : ∀ r, r < (zb_X1.take zb_mid).length → va_up ad2 zb_mid q1 r = ad2 r := fun r hr => va_up_ne _ _ (by rw [hlen] at hr; omega)
  have e1 : zb_ws (va_up ad2 zb_mid q1) cA 0 (zb_X1.take zb_mid ++ [(0, 10, zb_df 10, [])]) = zb_ws ad2 cA 0 (zb_X1.take zb_mid) ++ [(q1, .inr (10, (zb_df 10).map (zb_val ad2)))] := by
    rw [zb_ws_app, zb_ws_ext he _ 0 hwf (by omega), zb_el_ext he hokC, Nat.zero_add, hlen, va_up_self]
    rfl
  rw [← e1] at hP hD
  refine lv_dup hx hb dl_11 rfl ?_
  have hq1 : va_up ad2 zb_mid q1 zb_mid = q1 := va_up_self _ _ _
  have hq0 : va_up ad2 zb_mid q1 0 = q0 := by
    rw [he 0 (by rw [hlen]; decide)]
    exact had 0 (by decide)
  have call2 := zs_call (l := l) (e := e) (below := below) (p := p) (m := m) (meth := meth) (c := c) (Q := lw_Z below #[Value.ref b] s) (cells := 0 + 1 + zb_mc 9 + 1) (slots := 0 + 17 + zb_ms 9 + 46) (a := 10) (r := zb_mid) (ad := va_up ad2 zb_mid q1) (X := zb_X1.take zb_mid ++ [(0, 10, zb_df 10, [])]) (rest := [Value.ref q1]) (pc := 12) (ls := ls) hx hb hml hown hts hK hzX hP hD hS hl.1 (zb_wf_app hwf (fun v hv => (hokC v hv).mono (by omega))) (by rw [List.length_append, hlen]; decide) zb_run2 zs_14.2 hw12.2.2.2 (Nat.le_of_ble_eq_true rfl) (by show 0 + 1 + _ + 1 + _ ≤ 600000; omega) (by show 0 + 17 + _ + 46 + _ ≤ 7302250; omega) dl_12 (fun ad3 H3 locs3 had3 hwf3 hP hD hS => ?_)
  · rw [hq1] at call2
    exact call2
  · have g0 : ad3 0 = q0 := by rw [had3 0 (by rw [List.length_append, hlen]; decide), hq0]
    have g1 : ad3 zb_mid = q1 := by rw [had3 zb_mid (by rw [List.length_append, hlen]; decide), hq1]
    refine lv_astore_n (lv' := [(2, .ref q1), (1, .ref q0), (0, .ref b)]) hx hb dl_15 rfl hl (by decide) rfl (fun ls hl => ?_)
    refine lv_iconst (v := 0) hx hb dl_16 (by decide) ?_
    refine lv_istore_n (lv' := [(3, .int 0), (2, .ref q1), (1, .ref q0), (0, .ref b)]) hx hb dl_17 rfl hl (by decide) rfl (fun ls hl => ?_)
    have hadp : ∀ r, r < 108 → (fun r => if r < 108 then ad3 (zx_pm r) else adK (r - 1000)) r = ad3 (zx_pm r) := fun r hr => if_pos hr
    obtain ⟨hP, hD⟩ := zp_world hadp hP hD
    have hX := hZ (fun r => if r < 108 then ad3 (zx_pm r) else adK (r - 1000)) (fun i _ => by
      show (if 1000 + i < 108 then _ else adK (1000 + i - 1000)) = _
      rw [if_neg (by omega), Nat.add_sub_cancel_left])
    have C : zl_C p l s m meth c D (fun r => if r < 108 then ad3 (zx_pm r) else adK (r - 1000)) adV cA b L xs := ⟨hx, hb, hr, hml, hown, hts, hXs, hbl, hlocks, hK, hL, hX⟩
    have a0 : (fun r => if r < 108 then ad3 (zx_pm r) else adK (r - 1000)) 0 = q0 := by
      show (if 0 < 108 then ad3 (zx_pm 0) else _) = _
      rw [if_pos (by decide), show zx_pm 0 = 0 by decide +kernel, g0]
    have a81 : (fun r => if r < 108 then ad3 (zx_pm r) else adK (r - 1000)) 81 = q1 := by
      show (if 81 < 108 then ad3 (zx_pm 81) else _) = _
      rw [if_pos (by decide), show zx_pm 81 = zb_mid by decide +kernel, g1]
    refine W.widen (k := 600000) (n := 7302250) (by show 0 + 1 + _ + 1 + _ ≤ 600000; omega) (by show 0 + 17 + _ + 46 + _ ≤ 7302250; omega) ?_
    refine zl_loop hp C (L + 5) 0 (by omega) (by omega) zx_h0 hI _ _ ls ⟨⟨hP, hD, hS⟩, zx_h0_M⟩ ?_
    rw [show (if 0 < 108 then ad3 (zx_pm 0) else adK (0 - 1000)) = q0 from a0, show (if 81 < 108 then ad3 (zx_pm 81) else adK (81 - 1000)) = q1 from a81]
    exact lv_sub hl [3, 2, 1, 0] rfl

