/-! THE BUILDER IS THE MACHINE'S -/
def zb_val (ad : Nat → Nat) : Option zV → Value
  | none => .null
  | some v => zc_v ad v
def zb_ref (ad : Nat → Nat) (l : List (Option zV)) (k : Nat) : Option Nat := match l[k]? with
  | some (some (.inr (.inr q))) => some (ad q)
  | _ => none
def zb_el (ad : Nat → Nat) (cA : Nat → ClassId) (c : zbC) : va_E := match c.1 with
  | 0 => .inr (c.2.1, c.2.2.1.map (zb_val ad))
  | 4 => .inl (cA 4, c.2.1, .inr (.inr (.inr (.inr (zb_ref ad c.2.2.1)))))
  | 5 => .inl (cA 5, c.2.1, .inr (.inr (.inr (.inr (zb_ref ad c.2.2.1)))))
  | t => .inl (cA t, c.2.1, .inl (fun k => Int32.ofInt (zb_fn c.2.2.2 k)))
def zb_ws (ad : Nat → Nat) (cA : Nat → ClassId) : Nat → zbX → va_W
  | _, [] => []
  | k, c :: X => (ad k, zb_el ad cA c) :: zb_ws ad cA (k + 1) X
def zb_ok (n : Nat) : zV → Prop
  | .inl x => zc_i x
  | .inr (.inl _) => False
  | .inr (.inr r) => r < n
def zb_okC (n : Nat) (c : zbC) : Prop := ∀ v, some v ∈ c.2.2.1 → zb_ok n v
def zb_wf (X : zbX) : Prop := ∀ c ∈ X, zb_okC X.length c
def zb_okS (n : Nat) (S : List zV) : Prop := ∀ v ∈ S, zb_ok n v
def zb_okL (n : Nat) (L : zL) : Prop := ∀ i v, zx_lk L i = some v → zb_ok n v
theorem zb_ok.mono {n m : Nat} (h : n ≤ m) {v : zV} (hv : zb_ok n v) : zb_ok m v := by
  rcases v with v | (v | v)
  · exact hv
  · exact hv
  · exact Nat.lt_of_lt_of_le hv h
theorem zb_v_ext {ad ad2 : Nat → Nat} {n : Nat} (he : ∀ r, r < n → ad2 r = ad r) {v : zV} (hv : zb_ok n v) : zc_v ad2 v = zc_v ad v := by
  rcases v with v | (v | v)
  · rfl
  · exact hv.elim
  · show Value.ref (ad2 v) = Value.ref (ad v)
    rw [he v hv]
theorem zb_el_ext {ad ad2 : Nat → Nat} {cA : Nat → ClassId} {n : Nat} (he : ∀ r, r < n → ad2 r = ad r) {c : zbC} (hc : zb_okC n c) : zb_el ad2 cA c = zb_el ad cA c := by
  have e1 : c.2.2.1.map (zb_val ad2) = c.2.2.1.map (zb_val ad) := by
    apply List.map_congr_left
    intro v hv
    cases v with
    | none => rfl
    | some v => exact zb_v_ext he (hc v hv)
  have e2 : zb_ref ad2 c.2.2.1 = zb_ref ad c.2.2.1 := by
    funext k
    unfold zb_ref
    split
    · rename_i q hq
      rw [he q (hc _ (List.mem_of_getElem? hq))]
    · rfl
  unfold zb_el
  rw [e1, e2]
theorem zb_ws_ext {ad ad2 : Nat → Nat} {cA : Nat → ClassId} {n : Nat} (he : ∀ r, r < n → ad2 r = ad r) : ∀ (X : zbX) (k : Nat), (∀ c ∈ X, zb_okC n c) → k + X.length ≤ n → zb_ws ad2 cA k X = zb_ws ad cA k X
  | [], _, _, _ => rfl
  | c :: X, k, hw, hk => by
    simp only [List.length_cons] at hk
    simp only [zb_ws]
    rw [he k (by omega), zb_el_ext he (hw c List.mem_cons_self), zb_ws_ext he X (k + 1) (fun c hc => hw c (List.mem_cons_of_mem _ hc)) (by omega)]
theorem zb_ws_len (ad : Nat → Nat) (cA : Nat → ClassId) : ∀ (X : zbX) (k : Nat), (zb_ws ad cA k X).length = X.length
  | [], _ => rfl
  | c :: X, k => by simp [zb_ws, zb_ws_len ad cA X (k + 1)]
theorem zb_ws_at {ad : Nat → Nat} {cA : Nat → ClassId} : ∀ (X : zbX) (k i : Nat) {c : zbC}, X[i]? = some c → (zb_ws ad cA k X)[i]? = some (ad (k + i), zb_el ad cA c)
  | [], _, _, _, h => by simp at h
  | c :: X, k, 0, d, h => by
    simp at h
    subst h
    rfl
  | c :: X, k, i + 1, d, h => by
    have := zb_ws_at (ad := ad) (cA := cA) X (k + 1) i (c := d) (by simpa using h)
    simp only [zb_ws, List.getElem?_cons_succ]
    rw [this, show k + 1 + i = k + (i + 1) by omega]
theorem zb_ws_app {ad : Nat → Nat} {cA : Nat → ClassId} (c : zbC) : ∀ (X : zbX) (k : Nat), zb_ws ad cA k (X ++ [c]) = zb_ws ad cA k X ++ [(ad (k + X.length), zb_el ad cA c)]
  | [], k => rfl
  | d :: X, k => by
    simp only [List.cons_append, zb_ws, List.length_cons]
    rw [zb_ws_app c X (k + 1), show k + 1 + X.length = k + (X.length + 1) by omega]
theorem zb_ws_set {ad : Nat → Nat} {cA : Nat → ClassId} (c : zbC) : ∀ (X : zbX) (k i : Nat), zb_ws ad cA k (X.set i c) = (zb_ws ad cA k X).set i (ad (k + i), zb_el ad cA c)
  | [], _, _ => rfl
  | d :: X, k, 0 => rfl
  | d :: X, k, i + 1 => by
    simp only [List.set_cons_succ, zb_ws]
    rw [zb_ws_set c X (k + 1) i, show k + 1 + i = k + (i + 1) by omega]
theorem zb_wf_app {X : zbX} {c : zbC} (h : zb_wf X) (hc : zb_okC (X.length + 1) c) : zb_wf (X ++ [c]) := by
  intro d hd
  rw [List.length_append]
  rcases List.mem_append.mp hd with hd | hd
  · exact fun v hv => (h d hd v hv).mono (by simp)
  · rw [List.mem_singleton.mp hd]
    exact hc
theorem zb_wf_set {X : zbX} {c : zbC} {i : Nat} (h : zb_wf X) (hc : zb_okC X.length c) : zb_wf (X.set i c) := by
  intro d hd
  rw [List.length_set]
  rcases List.mem_or_eq_of_mem_set hd with hd | hd
  · exact h d hd
  · rw [hd]
    exact hc
def zb_X (U : State) : Prop := (∀ w ∈ zc_nw, va_Nw w U) ∧ va_AO "PointMaker$Program" U ∧ va_AO "PointMaker$Sheet" U
theorem zb_X.same {u U : State} (hv : U.vm = u.vm) (h : zb_X u) : zb_X U := by
  have ha : u.vm.Alike U.vm := by rw [hv]; exact Vm.Alike.refl _
  refine ⟨fun w hw => va_Nw.same ?_ hv.symm (h.1 w hw), h.2.1.moved ha, h.2.2.moved ha⟩
  have := (List.mem_filter.mp hw).2
  cases w <;> first | rfl | (simp [zc_isN] at this)
theorem zb_X.warm {s U : State} (hW : s.WarmedH U.vm) (h : zb_X s) : zb_X U := by
  refine ⟨fun w hw => ?_, h.2.1.moved hW.alike, h.2.2.moved hW.alike⟩
  have hn := (List.mem_filter.mp hw).2
  have h0 := h.1 w hw
  cases w <;> first | exact va_Nw.warmM hW h0 | (simp [zc_isN] at hn)
def zb_pre (D : va_G) (ad : Nat → Nat) (cA : Nat → ClassId) (A : Nat → Prop) (X : zbX) (U : State) : Prop :=
  va_P D vwCl (zb_ws ad cA 0 X) U.heap ∧ va_K D vwCl (zc_tys cA) U ∧ va_D A (zb_ws ad cA 0 X) ∧ zb_X U ∧ ∀ q, U.heap.size ≤ q → A q
def zb_Qc (n0 : Nat) (D : va_G) (ad : Nat → Nat) (cA : Nat → ClassId) (A : Nat → Prop) (X : zbX) : Array Value → State → Outcome → State → Prop := fun _ st oc t =>
  (oc = .returned none ∧ ∃ ad2 : Nat → Nat, (∀ k, k < n0 → ad2 k = ad k) ∧ zb_wf X ∧ n0 ≤ X.length ∧ va_P D vwCl (zb_ws ad2 cA 0 X) t.heap ∧ va_K D vwCl (zc_tys cA) t ∧ va_D A (zb_ws ad2 cA 0 X)) ∧ va_F A st t
def zb_wsj (j : Nat) : List Cond := .code (zb_y j) (zb_by j) (zb_ml j) none :: zc_tb
/-- a constructor's contract -/
def zB (j : Nat) (As : List zV) (X X2 : zbX) : Prop := zb_okS X.length As → zb_wf X → ∀ (l : Launch) (D : va_G) (ad : Nat → Nat) (cA : Nat → ClassId) (A : Nat → Prop),
  Met l (zb_y j) (zb_wsj j) (zb_rm j) (va_Pc (As.map (zc_v ad)) (zb_pre D ad cA A X)) (zb_Qc X.length D ad cA A X2) (zb_mc j) (zb_ms j) A
theorem zb_blind {av : List Value} {D : va_G} {ad : Nat → Nat} {cA : Nat → ClassId} {A : Nat → Prop} {X : zbX} : FrameBlind (va_Pc av (zb_pre D ad cA A X)) := by
  intro a U g mk q
  obtain ⟨q0, q1, q2, q3, q4, q5⟩ := q
  exact ⟨q0, q1, va_K.moved (u := U) (U := U.calling g mk a) (Vm.Alike.refl U.vm) q2, q3, zb_X.same (u := U) (U := U.calling g mk a) rfl q4, q5⟩
/-! what a program checks of a row -/
def zq_d (j pc : Nat) (ins : Instr) (len : Nat) : Bool := decide (decode (zb_by j) pc = .ok (ins, len))
def zq_s (j i pc : Nat) (ins : Instr) (len : Nat) : Bool := zq_d j pc ins len && decide (zb_pc j (i + 1) = pc + len)
def zq_t (j pc : Nat) (o : Int) (a : Nat) : Bool := decide ((pc : Int) + o = (zb_pc j a : Int))
def zq_isR (ty : FieldType) : Bool := match ty with
  | .object _ => true
  | .array _ => true
  | _ => false
def zq_f (j k a b : Nat) (d : Int) (ts : List (Int × Nat)) (put : Bool) : Bool := match ts, vwCl[a]? with
  | [(q, _)], some (_, T, N) => decide (b < N) && zk_w q.toNat (.fieldLink (zb_own j) k (T b).1 (T b).2.1 (T b).2.2.1) && (!put || ((!(T b).2.2.2 || (decide ((zb_y j).name = "<init>") && decide ((T b).1 = zb_own j))) && (match parseFieldDescriptor (T b).2.2.1 with
    | some ty => (decide (d = 0) && decide (ty = .int)) || (decide (d = 1) && decide (ty = .boolean)) || (decide (d = 2) && zq_isR ty)
    | none => false)))
  | _, _ => false
def zq_c (j a n : Nat) : Bool :=
  zk_w (zb_mt a).2.2.2.2.2.2.2.1 (.code (zb_y a) (zb_by a) (zb_ml a) none) && zk_w (zb_mt a).2.2.2.2.2.2.2.2.1 (.instanceMethod (zb_y a)) && zk_w (zb_mt a).2.2.2.2.2.2.2.2.2.2 (.initialized (zb_own a)) &&
  decide ((zb_rm a).frames + 1 ≤ (zb_rm j).frames) && decide (8 + (zb_ml a + 11) + (zb_rm a).locals ≤ (zb_rm j).locals) && decide ((parseMethodDescriptor (zb_y a).desc).map (fun d => d.parameters.length) = some n) && decide (zb_own a ≠ "java/lang/invoke/MethodHandle") && decide (zb_own a ≠ "java/lang/invoke/VarHandle")
def zq_l (j k a : Nat) (ts : List (Int × Nat)) : Bool := match ts with
  | [(q, 0)] => zk_w q.toNat (.methodLink (zb_own j) k (zb_y a))
  | [(q, 1)] => zk_nw q.toNat (.methodLinkNest (zb_own j) k (zb_y a) "PointMaker")
  | _ => false
def zq_e (j i : Nat) (e : zE) : Bool := match e with
  | (pc, ins, _, a, b, d, ts) => decide (zb_pc j i = pc) && match ins with
  | .iload_n n => zq_s j i pc (.iload_n n) 1 && decide ((n : Nat) = a)
  | .aload_n n => zq_s j i pc (.aload_n n) 1 && decide ((n : Nat) = a)
  | .iconst n => zq_s j i pc (.iconst n) 1 && decide (Int32.ofInt n = Int32.ofInt d) && zk_ri d
  | .bipush n => zq_s j i pc (.bipush n) 2 && decide ((Int8.ofInt n).toInt32 = Int32.ofInt d) && zk_ri d
  | .sipush n => zq_s j i pc (.sipush n) 3 && decide ((Int16.ofInt n).toInt32 = Int32.ofInt d) && zk_ri d
  | .dup => zq_s j i pc .dup 1
  | .imul => zq_s j i pc .imul 1
  | .istore_n n => zq_s j i pc (.istore_n n) 1 && decide ((n : Nat) = a) && decide (a < zb_ml j)
  | .iinc n v => zq_s j i pc (.iinc n v) 3 && decide (n = a) && decide (v = d) && decide (a < zb_ml j)
  | .if_icmp q n => zq_s j i pc (.if_icmp .ge n) 3 && zq_t j pc n a && (match q with
    | .ge => true
    | _ => false)
  | .goto n => zq_d j pc (.goto n) 3 && zq_t j pc n a
  | .new n => zq_s j i pc (.new n) 3 && (match ts, vwCl[a]? with
    | [(q1, _), (q2, _), (q3, _)], some (C, _, N) => zk_w q1.toNat (.classLink (zb_own j) n C) && zk_w q2.toNat (.instantiable C N) && zk_w q3.toNat (.initialized C) && decide ((zb_df a).length = N)
    | _, _ => false)
  | .newarray t => zq_s j i pc (.newarray t) 2 && (match ts, t with
    | [(q, _)], .int => zk_w q.toNat (.arrayClass .int) && decide (b = 1)
    | [(q, _)], .byte => zk_w q.toNat (.arrayClass .byte) && decide (b = 2)
    | [(q, _)], .boolean => zk_w q.toNat (.arrayClass .boolean) && decide (b = 3)
    | _, _ => false)
  | .anewarray n => zq_s j i pc (.anewarray n) 3 && (match ts with
    | [(q, _)] => (zk_w q.toNat (.classLink (zb_own j) n "PointMaker$Program") && decide (b = 4)) || (zk_w q.toNat (.classLink (zb_own j) n "PointMaker$Sheet") && decide (b = 5))
    | _ => false)
  | .getfield n => zq_s j i pc (.getfield n) 3 && zq_f j n a b d ts false
  | .putfield n => zq_s j i pc (.putfield n) 3 && zq_f j n a b d ts true
  | .iastore => zq_s j i pc .iastore 1
  | .sastore => zq_s j i pc .bastore 1
  | .aastore => zq_s j i pc .aastore 1
  | .invokespecial n => zq_s j i pc (.invokespecial n) 3 && (if a = 99 then (match ts with
    | [(q, _)] => zk_w q.toNat (.methodLink (zb_own j) n Lib.objectInit)
    | _ => false) && decide (1 ≤ (zb_rm j).frames) && decide (20 ≤ (zb_rm j).locals) else zq_c j a (b - 1) && zq_l j n a ts && decide (0 < b) && decide ((zb_y a).name = "<init>"))
  | .invokevirtual n => zq_s j i pc (.invokevirtual n) 3 && zq_c j a (b - 1) && zq_l j n a ts && decide (0 < b) && decide (a = 11) && decide (b = 1) && zk_w (zb_mt a).2.2.2.2.2.2.2.2.2.1 (.selects (zb_own a) (zb_y a) (zb_y a))
  | .return_ => zq_d j pc .return_ 1
  | _ => true
theorem zb_dv : ∀ a, a < 11 → ∀ q, vwCl[a]? = some q → ∃ ty : Nat → FieldType, (∀ k, k < q.2.2 → parseFieldDescriptor (q.2.1 k).2.2.1 = some (ty k)) ∧ ∀ ad : Nat → Nat, ∀ k, k < q.2.2 → defaultValue (ty k) = vp_V ((zb_df a).map (zb_val ad)) k := by
  intro a ha q hq
  have h2 : ∀ (c : Nat) (ty : Nat → FieldType) (N : Nat), (∀ k, k < N → defaultValue (ty k) = vp_V ((zb_df c).map (fun v => match v with | none => Value.null | some _ => Value.int 0)) k) → (∀ o ∈ zb_df c, o = none ∨ o = some (.inl 0)) → ∀ ad : Nat → Nat, ∀ k, k < N → defaultValue (ty k) = vp_V ((zb_df c).map (zb_val ad)) k := by
    intro c ty N h hv ad k hk
    rw [h k hk]
    congr 1
    apply List.map_congr_left
    intro v hv2
    rcases hv v hv2 with rfl | rfl
    · rfl
    · rfl
  match a, hq with
  | 0, hq => cases hq; exact ⟨tyX0, tyX0_ok, h2 0 tyX0 2 (by decide) (by decide)⟩
  | 1, hq => cases hq; exact ⟨tyX1, tyX1_ok, h2 1 tyX1 2 (by decide) (by decide)⟩
  | 2, hq => cases hq; exact ⟨tyX2, tyX2_ok, h2 2 tyX2 8 (by decide) (by decide)⟩
  | 3, hq => cases hq; exact ⟨tyX3, tyX3_ok, h2 3 tyX3 3 (by decide) (by decide)⟩
  | 4, hq => cases hq; exact ⟨tyX4, tyX4_ok, h2 4 tyX4 8 (by decide) (by decide)⟩
  | 5, hq => cases hq; exact ⟨tyX5, tyX5_ok, h2 5 tyX5 6 (by decide) (by decide)⟩
  | 6, hq => cases hq; exact ⟨tyX6, tyX6_ok, h2 6 tyX6 3 (by decide) (by decide)⟩
  | 7, hq => cases hq; exact ⟨tyX7, tyX7_ok, h2 7 tyX7 2 (by decide) (by decide)⟩
  | 8, hq => cases hq; exact ⟨tyX8, tyX8_ok, h2 8 tyX8 9 (by decide) (by decide)⟩
  | 9, hq => cases hq; exact ⟨tyX9, tyX9_ok, h2 9 tyX9 17 (by decide) (by decide)⟩
  | 10, hq => cases hq; exact ⟨tyX10, tyX10_ok, h2 10 tyX10 46 (by decide +kernel) (by decide +kernel)⟩
  | k + 11, hq => omega
