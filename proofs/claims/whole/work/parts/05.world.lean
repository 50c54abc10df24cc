/-! NUMBERS between the machine and the shadow -/
def zc_i (x : Int) : Prop := -2147483648 ≤ x ∧ x < 2147483648
def zc_l (x : Int) : Prop := -9223372036854775808 ≤ x ∧ x < 9223372036854775808
theorem zc_oi (x : Int32) : Int32.ofInt x.toInt = x := Int32.ofInt_toInt x
theorem zc_ol (x : Int64) : Int64.ofInt x.toInt = x := Int64.ofInt_toInt x
theorem zc_io {x : Int} (h : zc_i x) : (Int32.ofInt x).toInt = x := by
  obtain ⟨h1, h2⟩ := h
  exact Int32.toInt_ofInt_of_le (by omega) (by omega)
theorem zc_lo {x : Int} (h : zc_l x) : (Int64.ofInt x).toInt = x := by
  obtain ⟨h1, h2⟩ := h
  exact Int64.toInt_ofInt_of_le (by omega) (by omega)
theorem zc_ri (x : Int32) : zc_i x.toInt := by
  have h1 := Int32.le_toInt x
  have h2 := Int32.toInt_lt x
  unfold zc_i
  omega
theorem zc_rl (x : Int64) : zc_l x.toInt := by
  have h1 := Int64.le_toInt x
  have h2 := Int64.toInt_lt x
  unfold zc_l
  omega
theorem zc_wr (x : Int) : Int32.ofInt (zx_wr x) = Int32.ofInt x := zc_oi _
theorem zc_wl (x : Int) : Int64.ofInt (zx_wl x) = Int64.ofInt x := zc_ol _
theorem zc_eq {x y : Int} (hx : zc_i x) (hy : zc_i y) : Int32.ofInt x = Int32.ofInt y ↔ x = y :=
  ⟨fun h => by rw [← zc_io hx, ← zc_io hy, h], fun h => by rw [h]⟩
theorem zc_lt {x y : Int} (hx : zc_i x) (hy : zc_i y) : Int32.ofInt x < Int32.ofInt y ↔ x < y := by
  rw [Int32.lt_iff_toInt_lt, zc_io hx, zc_io hy]
theorem zc_le {x y : Int} (hx : zc_i x) (hy : zc_i y) : Int32.ofInt x ≤ Int32.ofInt y ↔ x ≤ y := by
  rw [Int32.le_iff_toInt_le, zc_io hx, zc_io hy]
theorem zc_cl {x : Int} (hx : zc_i x) : (Int32.ofInt x).toNatClampNeg = x.toNat := by
  show (Int32.ofInt x).toInt.toNat = _
  rw [zc_io hx]
theorem zc_in {x : Int} {n : Nat} (hx : zc_i x) (h0 : 0 ≤ x) (h1 : x < (n : Int)) : vp_in (Int32.ofInt x) n := vp_in_iff.mpr (by rw [zc_io hx]; exact ⟨h0, h1⟩)
theorem zc_0 : Int32.ofInt 0 = 0 := rfl
theorem zc_i0 : zc_i 0 := by unfold zc_i; omega
theorem zc_ofN (n : Nat) : Int32.ofInt (n : Int) = Int32.ofNat n := Int32.ofInt_eq_ofNat
theorem zc_add (x y : Int) : Int32.ofInt (zx_wr (x + y)) = Int32.ofInt x + Int32.ofInt y := by rw [zc_wr, Int32.ofInt_add]
theorem zc_sub (x y : Int) : Int32.ofInt (zx_wr (x - y)) = Int32.ofInt x - Int32.ofInt y := by rw [zc_wr, Int32.ofInt_sub]
theorem zc_mul (x y : Int) : Int32.ofInt (zx_wr (x * y)) = Int32.ofInt x * Int32.ofInt y := by rw [zc_wr, Int32.ofInt_mul]
theorem zc_addl (x y : Int) : Int64.ofInt (zx_wl (x + y)) = Int64.ofInt x + Int64.ofInt y := by rw [zc_wl, Int64.ofInt_add]
/-! THE WORLD OF THE SHADOW: each place has an address; cells as the shapes say -/
def zc_v (ad : Nat → Nat) : zV → Value
  | .inl x => .int (Int32.ofInt x)
  | .inr (.inl x) => .long (Int64.ofInt x)
  | .inr (.inr r) => .ref (ad r)
def zc_ok : zV → Prop
  | .inl x => zc_i x
  | .inr (.inl x) => zc_l x
  | .inr (.inr _) => True
def zc_okO (o : Option zV) : Prop := ∀ v, o = some v → zc_ok v
def zc_okS (S : List zV) : Prop := ∀ v ∈ S, zc_ok v
def zc_M (h : zM) : Prop := ∀ r k, zc_i (h r k)
def zc_fs (ad : Nat → Nat) (h : zM) (r : Nat) : List Value := (List.range (zx_n r)).map (fun k => zc_v ad (zx_fld (zx_nt (zx_rf r) k) (h r (k : Int))))
def zc_el (ad : Nat → Nat) (cA : Nat → ClassId) (h : zM) (r : Nat) : va_E := match zx_tg r with
  | 0 => .inr (zx_ci r, zc_fs ad h r)
  | 4 => .inl (cA 4, zx_n r, .inr (.inr (.inr (.inr (fun k => (zx_nt (zx_rf r) k).map ad)))))
  | 5 => .inl (cA 5, zx_n r, .inr (.inr (.inr (.inr (fun k => (zx_nt (zx_rf r) k).map ad)))))
  | t => .inl (cA t, zx_n r, .inl (fun k => Int32.ofInt (h r (k : Int))))
def zc_ws (ad : Nat → Nat) (cA : Nat → ClassId) (h : zM) : va_W := (List.range 108).map (fun r => (ad r, zc_el ad cA h r))
def zc_tys (cA : Nat → ClassId) : List (ClassId × FieldType) := [(cA 0, .int), (cA 1, .int), (cA 2, .byte), (cA 3, .boolean), (cA 4, .object "PointMaker$Program"), (cA 5, .object "PointMaker$Sheet")]
theorem zc_len : zx_shT.length = 108 := by decide +kernel
theorem zc_r {r : Nat} (h : zx_tg r < 9) : r < 108 := by
  rcases Nat.lt_or_ge r 108 with q | q
  · exact q
  · exfalso
    have e : zx_sh r = (9, 0, 0, []) := by
      unfold zx_sh
      rw [List.getD_eq_getElem?_getD, List.getElem?_eq_none (by rw [zc_len]; exact q)]
      rfl
    rw [zx_tg, e] at h
    exact absurd h (by decide)
theorem zc_at (ad : Nat → Nat) (cA : Nat → ClassId) (h : zM) {r : Nat} (hr : r < 108) : (zc_ws ad cA h)[r]? = some (ad r, zc_el ad cA h r) := by
  simp [zc_ws, List.getElem?_map, List.getElem?_range hr]
theorem zc_at_inv {ad : Nat → Nat} {cA : Nat → ClassId} {h : zM} {r : Nat} {q : Nat × va_E} (hq : (zc_ws ad cA h)[r]? = some q) : r < 108 := by
  have := (List.getElem?_eq_some_iff.mp hq).1
  simpa [zc_ws] using this
theorem zc_set {ad : Nat → Nat} {cA : Nat → ClassId} {h h' : zM} {r : Nat} {el : va_E} (hr : r < 108) (he : el = zc_el ad cA h' r) (ho : ∀ q, q < 108 → q ≠ r → zc_el ad cA h' q = zc_el ad cA h q) : (zc_ws ad cA h).set r (ad r, el) = zc_ws ad cA h' := by
  apply List.ext_getElem?
  intro k
  have hl : (zc_ws ad cA h).length = 108 := by simp [zc_ws]
  have hl' : (zc_ws ad cA h').length = 108 := by simp [zc_ws]
  rcases Nat.lt_or_ge k 108 with q | q
  · by_cases hk : k = r
    · subst hk
      rw [List.getElem?_set_self (by rw [hl]; exact q), zc_at ad cA h' q, he]
    · rw [List.getElem?_set_ne (fun z => hk z.symm), zc_at ad cA h q, zc_at ad cA h' q, ho k q hk]
  · rw [List.getElem?_eq_none (by simp [hl]; exact q), List.getElem?_eq_none (by rw [hl']; exact q)]
theorem zc_el0 {ad : Nat → Nat} {cA : Nat → ClassId} {h : zM} {r : Nat} (ht : zx_tg r = 0) : zc_el ad cA h r = .inr (zx_ci r, zc_fs ad h r) := by unfold zc_el; rw [ht]; rfl
theorem zc_el1 {ad : Nat → Nat} {cA : Nat → ClassId} {h : zM} {r : Nat} (ht : zx_tg r = 1) : zc_el ad cA h r = .inl (cA 1, zx_n r, .inl (fun k => Int32.ofInt (h r (k : Int)))) := by unfold zc_el; rw [ht]; rfl
theorem zc_el2 {ad : Nat → Nat} {cA : Nat → ClassId} {h : zM} {r : Nat} (ht : zx_tg r = 2) : zc_el ad cA h r = .inl (cA 2, zx_n r, .inl (fun k => Int32.ofInt (h r (k : Int)))) := by unfold zc_el; rw [ht]; rfl
theorem zc_el3 {ad : Nat → Nat} {cA : Nat → ClassId} {h : zM} {r : Nat} (ht : zx_tg r = 3) : zc_el ad cA h r = .inl (cA 3, zx_n r, .inl (fun k => Int32.ofInt (h r (k : Int)))) := by unfold zc_el; rw [ht]; rfl
theorem zc_el4 {ad : Nat → Nat} {cA : Nat → ClassId} {h : zM} {r : Nat} (ht : zx_tg r = 4) : zc_el ad cA h r = .inl (cA 4, zx_n r, .inr (.inr (.inr (.inr (fun k => (zx_nt (zx_rf r) k).map ad))))) := by unfold zc_el; rw [ht]; rfl
theorem zc_el5 {ad : Nat → Nat} {cA : Nat → ClassId} {h : zM} {r : Nat} (ht : zx_tg r = 5) : zc_el ad cA h r = .inl (cA 5, zx_n r, .inr (.inr (.inr (.inr (fun k => (zx_nt (zx_rf r) k).map ad))))) := by unfold zc_el; rw [ht]; rfl
/-- a cell is its memory's alone -/
theorem zc_el_of {ad : Nat → Nat} {cA : Nat → ClassId} {h h' : zM} {r : Nat} (e : ∀ k : Nat, h' r (k : Int) = h r (k : Int)) : zc_el ad cA h' r = zc_el ad cA h r := by
  have e1 : (fun k : Nat => Int32.ofInt (h' r (k : Int))) = (fun k : Nat => Int32.ofInt (h r (k : Int))) := funext fun k => by rw [e]
  have e2 : zc_fs ad h' r = zc_fs ad h r := by
    unfold zc_fs
    congr 1
    funext k
    rw [e]
  unfold zc_el
  rw [e1, e2]
theorem zc_st_ne {h : zM} {a b : Nat} {k v j : Int} (hb : b ≠ a) : zx_st h a k v b j = h b j := if_neg (fun z => hb z.1)
theorem zc_st_M {h : zM} {a : Nat} {k v : Int} (hM : zc_M h) (hv : zc_i v) : zc_M (zx_st h a k v) := by
  intro r j
  unfold zx_st
  by_cases c : r = a ∧ j = k
  · rw [if_pos c]; exact hv
  · rw [if_neg c]; exact hM r j
theorem zc_cp_M {h : zM} {a c : Nat} {sp dp n : Int} (hM : zc_M h) : zc_M (zx_cp h a sp c dp n) := by
  intro r j
  unfold zx_cp
  by_cases q : r = c ∧ dp ≤ j ∧ j < dp + n
  · rw [if_pos q]; exact hM _ _
  · rw [if_neg q]; exact hM _ _
/-- a row's store -/
theorem zc_upd {h : zM} {r : Nat} {k v : Int} (h0 : 0 ≤ k) : upd (fun j : Nat => Int32.ofInt (h r (j : Int))) k.toNat (Int32.ofInt v) = fun j : Nat => Int32.ofInt (zx_st h r k v r (j : Int)) := by
  funext j
  unfold upd zx_st
  by_cases c : j = k.toNat
  · subst c
    rw [if_pos rfl, if_pos ⟨rfl, by omega⟩]
  · rw [if_neg c, if_neg (fun z => c (by omega))]
/-- a row's copy -/
theorem zc_cpy {h : zM} {a c : Nat} {sp dp n : Int} (h1 : 0 ≤ sp) (h2 : 0 ≤ dp) (h3 : 0 ≤ n) : va_cpy (fun j : Nat => Int32.ofInt (h a (j : Int))) (fun j : Nat => Int32.ofInt (h c (j : Int))) sp.toNat dp.toNat n.toNat = fun j : Nat => Int32.ofInt (zx_cp h a sp c dp n c (j : Int)) := by
  funext j
  unfold va_cpy zx_cp
  by_cases q : dp.toNat ≤ j ∧ j < dp.toNat + n.toNat
  · rw [if_pos q, if_pos ⟨rfl, by omega, by omega⟩]
    have e : ((sp.toNat + (j - dp.toNat) : Nat) : Int) = sp + ((j : Int) - dp) := by omega
    show Int32.ofInt (h a ((sp.toNat + (j - dp.toNat) : Nat) : Int)) = _
    rw [e]
  · rw [if_neg q, if_neg (fun z => q ⟨by omega, by omega⟩)]
/-- a field's store -/
theorem zc_fput {ad : Nat → Nat} {h : zM} {r k : Nat} {v : Int} (hk : k < zx_n r) (hn : zx_nt (zx_rf r) k = none) : (zc_fs ad h r).set k (.int (Int32.ofInt v)) = zc_fs ad (zx_st h r (k : Int) v) r := by
  apply List.ext_getElem?
  intro j
  have hl : (zc_fs ad h r).length = zx_n r := by simp [zc_fs]
  have hl' : (zc_fs ad (zx_st h r (k : Int) v) r).length = zx_n r := by simp [zc_fs]
  rcases Nat.lt_or_ge j (zx_n r) with q | q
  · by_cases hj : j = k
    · subst hj
      rw [List.getElem?_set_self (by rw [hl]; exact q)]
      simp [zc_fs, List.getElem?_map, List.getElem?_range q, hn, zx_fld, zc_v, zx_st]
    · rw [List.getElem?_set_ne (fun z => hj z.symm)]
      have : zx_st h r (k : Int) v r (j : Int) = h r (j : Int) := if_neg (fun z => hj (by omega))
      simp [zc_fs, List.getElem?_map, List.getElem?_range q, this]
  · rw [List.getElem?_eq_none (by simp [hl]; exact q), List.getElem?_eq_none (by rw [hl']; exact q)]
theorem zc_fget {ad : Nat → Nat} {h : zM} {r k : Nat} (hk : k < zx_n r) : (zc_fs ad h r)[k]? = some (zc_v ad (zx_fld (zx_nt (zx_rf r) k) (h r (k : Int)))) := by
  simp [zc_fs, List.getElem?_map, List.getElem?_range hk]
theorem zc_flen (ad : Nat → Nat) (h : zM) (r : Nat) : (zc_fs ad h r).length = zx_n r := by simp [zc_fs]
/-! locals -/
def zc_L (ad : Nat → Nat) (L : zL) (nL : Nat) (ls : Array Slot) : Prop := ∃ lst : List (Nat × Value), lv_has ls nL lst ∧ ∀ i v, zx_lk L i = some v → (i, zc_v ad v) ∈ lst
def zc_okL (L : zL) : Prop := ∀ i v, zx_lk L i = some v → zc_ok v
theorem zc_L.at {ad : Nat → Nat} {L : zL} {nL : Nat} {ls : Array Slot} (h : zc_L ad L nL ls) {i : Nat} {v : zV} (hv : zx_lk L i = some v) : ls[i]? = some (.val (zc_v ad v)) := by
  obtain ⟨lst, h1, h2⟩ := h
  exact h1.2.2 _ (h2 i v hv)
theorem zc_L.size {ad : Nat → Nat} {L : zL} {nL : Nat} {ls : Array Slot} (h : zc_L ad L nL ls) : ls.size = nL := by
  obtain ⟨lst, h1, -⟩ := h
  exact h1.1
theorem zx_lk_se : ∀ (L : zL) (a i : Nat) (x v : zV), zx_lk (zx_se L a x) i = some v → (i = a ∧ v = x) ∨ (i ≠ a ∧ zx_lk L i = some v ∧ (i + 1 = a → ∀ y, v ≠ .inr (.inl y)))
  | [], _, _, _, _, h => by simp [zx_se, zx_lk] at h
  | _ :: l, 0, 0, x, v, h => by simp [zx_se, zx_lk] at h; exact Or.inl ⟨rfl, h.symm⟩
  | _ :: l, 0, i + 1, x, v, h => by
    simp only [zx_se, zx_lk] at h
    exact Or.inr ⟨by omega, h, fun z => by omega⟩
  | y :: l, 1, 0, x, v, h => by
    simp only [zx_se, zx_lk] at h
    refine Or.inr ⟨by omega, ?_, fun _ z e => ?_⟩
    · show y = some v
      rcases y with _ | (y | (y | y)) <;> simp [zx_kl] at h <;> first | exact h ▸ rfl | rw [h]
    · rcases y with _ | (y | (y | y)) <;> simp [zx_kl] at h <;> (rw [e] at h; simp at h)
  | y :: l, 1, i + 1, x, v, h => by
    simp only [zx_se, zx_lk] at h
    rcases zx_lk_se l 0 i x v h with ⟨h1, h2⟩ | ⟨h1, h2, h3⟩
    · exact Or.inl ⟨by omega, h2⟩
    · exact Or.inr ⟨by omega, h2, fun z => by omega⟩
  | y :: l, n + 2, 0, x, v, h => by
    simp only [zx_se, zx_lk] at h
    exact Or.inr ⟨by omega, h, fun z => by omega⟩
  | y :: l, n + 2, i + 1, x, v, h => by
    simp only [zx_se, zx_lk] at h
    rcases zx_lk_se l (n + 1) i x v h with ⟨h1, h2⟩ | ⟨h1, h2, h3⟩
    · exact Or.inl ⟨by omega, h2⟩
    · exact Or.inr ⟨by omega, h2, fun z => h3 (by omega)⟩
theorem zx_lk_cl : ∀ (L : zL) (a i : Nat) (v : zV), zx_lk (zx_cl L a) i = some v → i ≠ a ∧ zx_lk L i = some v
  | [], _, _, _, h => by simp [zx_cl, zx_lk] at h
  | _ :: l, 0, 0, v, h => by simp [zx_cl, zx_lk] at h
  | _ :: l, 0, i + 1, v, h => ⟨by omega, h⟩
  | y :: l, n + 1, 0, v, h => ⟨by omega, h⟩
  | y :: l, n + 1, i + 1, v, h => by
    obtain ⟨h1, h2⟩ := zx_lk_cl l n i v h
    exact ⟨by omega, h2⟩
theorem zc_cat (ad : Nat → Nat) {v : zV} (h : ∀ y, v ≠ .inr (.inl y)) : (zc_v ad v).category = 1 := by
  rcases v with v | (v | v)
  · rfl
  · exact absurd rfl (h v)
  · rfl
/-- a store: what the list of locals is behind it -/
theorem zc_se_in {ad : Nat → Nat} {L : zL} {lst : List (Nat × Value)} (h : ∀ i v, zx_lk L i = some v → (i, zc_v ad v) ∈ lst) (a : Nat) (x : zV) : ∀ i v, zx_lk (zx_se L a x) i = some v → (i, zc_v ad v) ∈ (a, zc_v ad x) :: lst.filter (fun q => !(q.1 == a) && !(q.1 + 1 == a && q.2.category == 2)) := by
  intro i v hv
  rcases zx_lk_se L a i x v hv with ⟨rfl, rfl⟩ | ⟨h1, h2, h3⟩
  · exact List.mem_cons_self
  · refine List.mem_cons_of_mem _ (List.mem_filter.mpr ⟨h i v h2, ?_⟩)
    by_cases q : i + 1 = a
    · simp [h1, q, zc_cat ad (h3 q)]
    · simp [h1, q]
theorem zc_se_ok {L : zL} (h : zc_okL L) {a : Nat} {x : zV} (hx : zc_ok x) : zc_okL (zx_se L a x) := by
  intro i v hv
  rcases zx_lk_se L a i x v hv with ⟨rfl, rfl⟩ | ⟨h1, h2, h3⟩
  · exact hx
  · exact h i v h2
theorem zc_cl_ok {L : zL} (h : zc_okL L) {a : Nat} : zc_okL (zx_cl L a) := fun i v hv => h i v (zx_lk_cl L a i v hv).2
