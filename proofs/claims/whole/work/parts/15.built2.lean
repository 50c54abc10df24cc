/-! A STEP OF THE BUILDER is one of the machine -/
theorem zb_tok_inv {d : Int} {v : zV} (h : zb_tok d v = true) : (∃ x, v = .inl x ∧ (d = 0 ∨ (d = 1 ∧ (x = 0 ∨ x = 1)))) ∨ (∃ q, v = .inr (.inr q) ∧ d = 2) := by
  rcases v with v | (v | v)
  · simp only [zb_tok, Bool.or_eq_true, Bool.and_eq_true, decide_eq_true_eq] at h
    exact Or.inl ⟨v, rfl, h⟩
  · cases h
  · simp only [zb_tok, decide_eq_true_eq] at h
    exact Or.inr ⟨v, rfl, h⟩
theorem zb_el0 {ad : Nat → Nat} {cA : Nat → ClassId} {a : Nat} {fs : List (Option zV)} {w : List (Nat × Int)} : zb_el ad cA (0, a, fs, w) = .inr (a, fs.map (zb_val ad)) := rfl
theorem zb_el1 {ad : Nat → Nat} {cA : Nat → ClassId} {n : Nat} {fs : List (Option zV)} {w : List (Nat × Int)} : zb_el ad cA (1, n, fs, w) = .inl (cA 1, n, .inl (fun k => Int32.ofInt (zb_fn w k))) := rfl
theorem zb_el3 {ad : Nat → Nat} {cA : Nat → ClassId} {n : Nat} {fs : List (Option zV)} {w : List (Nat × Int)} : zb_el ad cA (3, n, fs, w) = .inl (cA 3, n, .inl (fun k => Int32.ofInt (zb_fn w k))) := rfl
theorem zb_upd {w : List (Nat × Int)} {k : Nat} {v : Int} : upd (fun j : Nat => Int32.ofInt (zb_fn w j)) k (Int32.ofInt v) = fun j : Nat => Int32.ofInt (zb_fn ((k, v) :: w) j) := by
  funext j
  unfold upd
  simp only [zb_fn]
  by_cases c : j = k
  · rw [if_pos c, if_pos c]
  · rw [if_neg c, if_neg c]
theorem zb_refs {ad : Nat → Nat} {fs : List (Option zV)} {k q : Nat} (hk : k < fs.length) : va_up (zb_ref ad fs) k (some (ad q)) = zb_ref ad (fs.set k (some (.inr (.inr q)))) := by
  funext j
  unfold va_up zb_ref
  by_cases c : j = k
  · subst c
    rw [if_pos rfl, List.getElem?_set_self hk]
  · rw [if_neg c, List.getElem?_set_ne (fun z => c z.symm)]
theorem zq_f_inv {j k a b : Nat} {d : Int} {ts : List (Int × Nat)} {put : Bool} (h : zq_f j k a b d ts put = true) : ∃ (q : Int) (C : String) (T : u_T) (N : Nat), vwCl[a]? = some (C, T, N) ∧ b < N ∧ zk_w q.toNat (.fieldLink (zb_own j) k (T b).1 (T b).2.1 (T b).2.2.1) = true ∧ (put = true → ((T b).2.2.2 = false ∨ ((zb_y j).name = "<init>" ∧ (T b).1 = zb_own j)) ∧ ∃ ty, parseFieldDescriptor (T b).2.2.1 = some ty ∧ ((d = 0 ∧ ty = .int) ∨ (d = 1 ∧ ty = .boolean) ∨ (d = 2 ∧ zq_isR ty = true))) := by
  unfold zq_f at h
  split at h
  · rename_i q _ C T N hq
    simp only [Bool.and_eq_true, decide_eq_true_eq, Bool.or_eq_true, Bool.not_eq_true'] at h
    obtain ⟨⟨h2, h3⟩, h4⟩ := h
    refine ⟨q, C, T, N, hq, h2, h3, fun hp => ?_⟩
    rcases h4 with h4 | ⟨h4, h5⟩
    · rw [hp] at h4; cases h4
    · refine ⟨h4, ?_⟩
      split at h5
      · rename_i ty hty
        refine ⟨ty, hty, ?_⟩
        simp only [Bool.or_eq_true, Bool.and_eq_true, decide_eq_true_eq] at h5
        rcases h5 with (h5 | h5) | h5
        · exact Or.inl h5
        · exact Or.inr (Or.inl h5)
        · exact Or.inr (Or.inr h5)
      · cases h5
  · cases h
theorem zq_l_inv {j k a : Nat} {ts : List (Int × Nat)} (hl : zq_l j k a ts = true) : Cond.methodLink (zb_own j) k (zb_y a) ∈ zc_tb ∨ Cond.methodLinkNest (zb_own j) k (zb_y a) "PointMaker" ∈ zc_nw := by
  unfold zq_l at hl
  split at hl
  · exact Or.inl (zk_w_in hl)
  · exact Or.inr (zk_nw_in hl)
  · cases hl
theorem zb_sameA {s : State} {D : va_G} {cA : Nat → ClassId} {ca : ClassId} {ty : FieldType} {t : Nat} (hK : va_K D vwCl (zc_tys cA) s) (ht : (zc_tys cA)[t]? = some (cA t, ty)) (h : va_RA s ca ty) : ca = cA t := by
  have h2 := (hK.2 t _ ht).2
  cases ty with
  | object C =>
    obtain ⟨_, _, _, _, _, h1⟩ := h
    obtain ⟨_, _, _, _, _, h2⟩ := h2
    exact Option.some.inj (h1.symm.trans h2)
  | _ => exact Option.some.inj (Eq.trans (Eq.symm h) h2)
section ZB
variable {j n0 : Nat} {p : Program} {l : Launch} {e : Env} {s : State} {m : MethodId} {args : Array Value} {below : List Frame} {meth : Method} {c : Code} {D : va_G} {ad0 : Nat → Nat} {cA : Nat → ClassId} {A : Nat → Prop} {i : Nat} {L : zL} {S : List zV} {X Y : zbX} {cu su : Nat} {K : Nat → zL → List zV → zbX → Nat → Nat → Option zbX} {call : Nat → List zV → zbX → Option zbX}
def zb_C (j : Nat) (p : Program) (s : State) (m : MethodId) (args : Array Value) (meth : Method) (c : Code) (D : va_G) (cA : Nat → ClassId) (A : Nat → Prop) : Prop :=
  p.tables.exec = Jvm.exec ∧ c.code = zb_by j ∧ meth.sig.returnType = none ∧ c.maxLocals = zb_ml j ∧ s.vm.findClass (zb_own j) = some m.cls ∧ (∀ w ∈ zc_tb, w.before args s = true) ∧ meth.locks = false ∧ va_K D vwCl (zc_tys cA) s ∧ zb_X s ∧ (∀ q, s.heap.size ≤ q → A q) ∧ meth.name = (zb_y j).name
def zb_I (j n0 : Nat) (ad0 : Nat → Nat) (s : State) (D : va_G) (ad : Nat → Nat) (cA : Nat → ClassId) (A : Nat → Prop) (L : zL) (S : List zV) (X : zbX) (H : Heap) (locs : List Loc) (ls : Array Slot) : Prop :=
  (va_P D vwCl (zb_ws ad cA 0 X) H ∧ va_D A (zb_ws ad cA 0 X) ∧ va_S A s.heap H locs) ∧ (zc_L ad L (zb_ml j) ls ∧ zb_okL X.length L) ∧ zb_okS X.length S ∧ zb_wf X ∧ n0 ≤ X.length ∧ ∀ k, k < n0 → ad k = ad0 k
def zb_W (j n0 : Nat) (ad0 : Nat → Nat) (p : Program) (l : Launch) (e : Env) (s : State) (m : MethodId) (args : Array Value) (below : List Frame) (meth : Method) (c : Code) (D : va_G) (cA : Nat → ClassId) (A : Nat → Prop) (Y : zbX) (i : Nat) (L : zL) (S : List zV) (X : zbX) (cu su : Nat) : Prop :=
  cu ≤ zb_mc j → su ≤ zb_ms j → ∀ (ad : Nat → Nat) (H : Heap) (locs : List Loc) (ls : Array Slot), zb_I j n0 ad0 s D ad cA A L S X H locs ls → W p l e (zb_rm j) s m args below meth c H locs cu su (MQ below (zb_Qc n0 D ad0 cA A Y) args s (zb_mc j) (zb_ms j) A) (F0 m (zb_pc j i) ls (S.map (zc_v ad)))
theorem zb_C.word (C : zb_C j p s m args meth c D cA A) {k : Nat} {w : Cond} (h : zk_w k w = true) : w.before args s = true := C.2.2.2.2.2.1 w (zk_w_in h)
theorem zb_next {i2 pc2 cu2 su2 : Nat} {L2 : zL} {S2 : List zV} {X2 : zbX} {ad : Nat → Nat} {H : Heap} {locs : List Loc} {ls : Array Slot} (hK : ∀ i2 L2 S2 X2 cu2 su2, K i2 L2 S2 X2 cu2 su2 = some Y → zb_W j n0 ad0 p l e s m args below meth c D cA A Y i2 L2 S2 X2 cu2 su2) (hn : zb_pc j i2 = pc2) (hk : K i2 L2 S2 X2 cu2 su2 = some Y) (hc : cu2 ≤ zb_mc j) (hs : su2 ≤ zb_ms j) (I : zb_I j n0 ad0 s D ad cA A L2 S2 X2 H locs ls) : W p l e (zb_rm j) s m args below meth c H locs cu2 su2 (MQ below (zb_Qc n0 D ad0 cA A Y) args s (zb_mc j) (zb_ms j) A) (F0 m pc2 ls (S2.map (zc_v ad))) := by
  have := hK _ _ _ _ _ _ hk hc hs ad H locs ls I
  rw [hn] at this
  exact this
/-- one cell more -/
theorem zb_grow {ad : Nat → Nat} {H H1 : Heap} {locs : List Loc} {ls : Array Slot} {q : Nat} {cc : zbC} (I : zb_I j n0 ad0 s D ad cA A L S X H locs ls) (hc : zb_okC X.length cc) (hP : va_P D vwCl (zb_ws ad cA 0 X ++ [(q, zb_el ad cA cc)]) H1) (hD : va_D A (zb_ws ad cA 0 X ++ [(q, zb_el ad cA cc)])) (hS : va_S A s.heap H1 locs) : zb_I j n0 ad0 s D (va_up ad X.length q) cA A L (.inr (.inr X.length) :: S) (X ++ [cc]) H1 locs ls ∧ S.map (zc_v (va_up ad X.length q)) = S.map (zc_v ad) ∧ zc_v (va_up ad X.length q) (.inr (.inr X.length)) = .ref q := by
  have he : ∀ r, r < X.length → va_up ad X.length q r = ad r := fun r hr => va_up_ne _ _ (by omega)
  have e1 : zb_ws (va_up ad X.length q) cA 0 (X ++ [cc]) = zb_ws ad cA 0 X ++ [(q, zb_el ad cA cc)] := by
    rw [zb_ws_app, zb_ws_ext he X 0 I.2.2.2.1 (by omega), zb_el_ext he hc, Nat.zero_add, va_up_self]
  have eS : ∀ v ∈ S, zc_v (va_up ad X.length q) v = zc_v ad v := fun v hv => zb_v_ext he (I.2.2.1 v hv)
  refine ⟨⟨⟨by rw [e1]; exact hP, by rw [e1]; exact hD, hS⟩, ⟨?_, ?_⟩, ?_, zb_wf_app I.2.2.2.1 (fun v hv => (hc v hv).mono (by omega)), ?_, ?_⟩, List.map_congr_left eS, ?_⟩
  · obtain ⟨lst, g1, g2⟩ := I.2.1.1
    exact ⟨lst, g1, fun i v hv => by rw [zb_v_ext he (I.2.1.2 i v hv)]; exact g2 i v hv⟩
  · intro i v hv
    exact (I.2.1.2 i v hv).mono (by simp)
  · refine List.forall_mem_cons.mpr ⟨?_, fun v hv => (I.2.2.1 v hv).mono (by simp)⟩
    show X.length < (X ++ [cc]).length
    simp
  · rw [List.length_append]
    exact Nat.le_trans I.2.2.2.2.1 (by omega)
  · intro k hk
    rw [he k (Nat.lt_of_lt_of_le hk I.2.2.2.2.1)]
    exact I.2.2.2.2.2 k hk
  · show Value.ref (va_up ad X.length q X.length) = _
    rw [va_up_self]
theorem zb_I.rest {ad : Nat → Nat} {H : Heap} {locs : List Loc} {ls : Array Slot} {v : zV} (I : zb_I j n0 ad0 s D ad cA A L (v :: S) X H locs ls) : zb_I j n0 ad0 s D ad cA A L S X H locs ls := ⟨I.1, I.2.1, (List.forall_mem_cons.mp I.2.2.1).2, I.2.2.2⟩
theorem zb_I.top {ad : Nat → Nat} {H : Heap} {locs : List Loc} {ls : Array Slot} {v : zV} (I : zb_I j n0 ad0 s D ad cA A L (v :: S) X H locs ls) : zb_ok X.length v := (List.forall_mem_cons.mp I.2.2.1).1
theorem zb_I.push {ad : Nat → Nat} {H : Heap} {locs : List Loc} {ls : Array Slot} {v : zV} (I : zb_I j n0 ad0 s D ad cA A L S X H locs ls) (hv : zb_ok X.length v) : zb_I j n0 ad0 s D ad cA A L (v :: S) X H locs ls := ⟨I.1, I.2.1, List.forall_mem_cons.mpr ⟨hv, I.2.2.1⟩, I.2.2.2⟩
theorem zb_setI {ad : Nat → Nat} {H H1 : Heap} {locs locs1 : List Loc} {ls : Array Slot} {r : Nat} {cc : zbC} (I : zb_I j n0 ad0 s D ad cA A L S X H locs ls) (hc : zb_okC X.length cc) (hP : va_P D vwCl ((zb_ws ad cA 0 X).set r (ad r, zb_el ad cA cc)) H1) (hD : va_D A ((zb_ws ad cA 0 X).set r (ad r, zb_el ad cA cc))) (hS : va_S A s.heap H1 locs1) : zb_I j n0 ad0 s D ad cA A L S (X.set r cc) H1 locs1 ls := by
  have e1 : zb_ws ad cA 0 (X.set r cc) = (zb_ws ad cA 0 X).set r (ad r, zb_el ad cA cc) := by rw [zb_ws_set, Nat.zero_add]
  have e2 : (X.set r cc).length = X.length := List.length_set
  refine ⟨⟨by rw [e1]; exact hP, by rw [e1]; exact hD, hS⟩, ⟨I.2.1.1, by rw [e2]; exact I.2.1.2⟩, by rw [e2]; exact I.2.2.1, zb_wf_set I.2.2.2.1 hc, by rw [e2]; exact I.2.2.2.2.1, I.2.2.2.2.2⟩
theorem zb_se_ok {n : Nat} {L : zL} (h : zb_okL n L) {a : Nat} {x : zV} (hx : zb_ok n x) : zb_okL n (zx_se L a x) := by
  intro i v hv
  rcases zx_lk_se L a i x v hv with ⟨rfl, rfl⟩ | ⟨h1, h2, h3⟩
  · exact hx
  · exact h i v h2
/-- behind a call -/
theorem zb_back {a pc : Nat} {ad : Nat → Nat} {As S2 : List zV} {X2 : zbX} {st0 : List Value} {aa : Array Value} {H : Heap} {locs : List Loc} {ls : Array Slot} (hn : zb_pc j (i + 1) = pc + 3) (hK : ∀ i2 L2 S2 X2 cu2 su2, K i2 L2 S2 X2 cu2 su2 = some Y → zb_W j n0 ad0 p l e s m args below meth c D cA A Y i2 L2 S2 X2 cu2 su2) (hk : K (i + 1) L S2 X2 (cu + zb_mc a) (su + zb_ms a) = some Y) (hc : cu + zb_mc a ≤ zb_mc j) (hs : su + zb_ms a ≤ zb_ms j) (I : zb_I j n0 ad0 s D ad cA A L S2 X H locs ls)
    (hr : va_Run p l e (zb_rm j) s m args below meth c H locs cu su (zb_mc a) (zb_ms a) (F0 m pc ls st0) (S2.map (zc_v ad)) (zb_Qc X.length D ad cA A X2 aa) A) : W p l e (zb_rm j) s m args below meth c H locs cu su (MQ below (zb_Qc n0 D ad0 cA A Y) args s (zb_mc j) (zb_ms j) A) (F0 m pc ls st0) := by
  intro T hT XX
  obtain ⟨v, st₀, t, T', Lc, h0, X', hL, e1, e2, ⟨⟨hv, ad2, hp1, hp2, hp3, hp4, hp5, hp6⟩, hz, hkk⟩, st⟩ := hr T hT XX
  cases hv
  rw [h0] at hz hkk
  have hS := I.1.2.2
  have hS1 : va_S A s.heap T'.heap (locs ++ Lc) := ⟨Nat.le_trans hS.1 (by rw [e1]; exact hz), fun q h1 h2 => by rw [e1, hkk q (Nat.lt_of_lt_of_le h1 hS.1) h2]; exact hS.2.1 q h1 h2, fun q hq => by
      rcases List.mem_append.mp hq with h | h
      · exact hS.2.2 q h
      · exact hL q h⟩
  have eS : S2.map (zc_v ad2) = S2.map (zc_v ad) := List.map_congr_left (fun v hv => zb_v_ext hp1 (I.2.2.1 v hv))
  have I2 : zb_I j n0 ad0 s D ad2 cA A L S2 X2 T'.heap (locs ++ Lc) ls := by
    refine ⟨⟨by rw [e1]; exact hp4, hp6, hS1⟩, ⟨?_, fun i v hv => (I.2.1.2 i v hv).mono hp3⟩, fun v hv => (I.2.2.1 v hv).mono hp3, hp2, Nat.le_trans I.2.2.2.2.1 hp3, fun k hk => by rw [hp1 k (Nat.lt_of_lt_of_le hk I.2.2.2.2.1)]; exact I.2.2.2.2.2 k hk⟩
    obtain ⟨lst, g1, g2⟩ := I.2.1.1
    exact ⟨lst, g1, fun i v hv => by rw [zb_v_ext hp1 (I.2.1.2 i v hv)]; exact g2 i v hv⟩
  have k2 := zb_next hK hn hk hc hs I2
  rw [eS] at k2
  obtain ⟨t2, a1, b1⟩ := k2 T' rfl X'
  exact ⟨t2, st t2 a1, b1⟩
end ZB
