def zx_sts : List Nat := [34, 38, 39, 40, 41, 42, 43, 44, 45, 46, 47, 48, 49, 50, 70, 77, 85, 121, 131, 136, 138, 166]
def zc_sr : List (String × Nat × String × Nat) := [("PointMaker", 315, "plus", 3), ("PointMaker", 317, "less", 4), ("PointMaker", 319, "same", 5), ("PointMaker", 321, "more", 6), ("PointMaker$Letters", 66, "say", 2), ("PointMaker$Letters", 75, "set ", 10), ("PointMaker$Letters", 84, "stop", 7), ("PointMaker$Letters", 86, "goto ", 11), ("PointMaker$Letters", 88, "if ", 12), ("PointMaker$Reader", 107, "block", 0), ("PointMaker$Reader", 112, "set", 1), ("PointMaker$Reader", 114, "say", 2), ("PointMaker$Reader", 138, "stop", 7), ("PointMaker$Reader", 140, "goto", 8), ("PointMaker$Reader", 145, "if", 9)]
def zc_nS : Nat := 13
def zc_lS : List Nat := [5, 3, 3, 4, 4, 4, 4, 4, 4, 2, 4, 5, 3]
def zc_bS : List (List Int32) := [[98, 108, 111, 99, 107], [115, 101, 116], [115, 97, 121], [112, 108, 117, 115], [108, 101, 115, 115], [115, 97, 109, 101], [109, 111, 114, 101], [115, 116, 111, 112], [103, 111, 116, 111], [105, 102], [115, 101, 116, 32], [103, 111, 116, 111, 32], [105, 102, 32]]
/-! WORDS: those of the tables that stay; those of nest mates -/
def zc_isN : Cond → Bool
  | .methodLinkNest .. => true
  | _ => false
def zc_tb : List Cond := lw_tbl.filter goodWord
def zc_nw : List Cond := lw_tbl.filter zc_isN
def zc_wsj (j : Nat) : List Cond := .code (zx_y j) (zx_by j) (zx_ml j) (zx_rt j) :: zc_tb
def zc_own (j : Nat) : String := (zx_y j).cls
/-! WHAT A PROGRAM CHECKS of a row of code -/
def zk_d (j pc : Nat) (ins : Instr) (len : Nat) : Bool := decide (decode (zx_by j) pc = .ok (ins, len))
def zk_s (j i pc : Nat) (ins : Instr) (len : Nat) : Bool := zk_d j pc ins len && decide (zx_pc j (i + 1) = pc + len)
def zk_t (j pc : Nat) (o : Int) (a : Nat) : Bool := decide ((pc : Int) + o = (zx_pc j a : Int))
def zk_w (k : Nat) (w : Cond) : Bool := decide (lw_tbl[k]? = some w) && goodWord w
def zk_nw (k : Nat) (w : Cond) : Bool := decide (lw_tbl[k]? = some w) && zc_isN w
def zk_ri (d : Int) : Bool := decide (-2147483648 ≤ d ∧ d < 2147483648)
def zk_rl (d : Int) : Bool := decide (-9223372036854775808 ≤ d ∧ d < 9223372036854775808)
def zk_str (own : String) (k a : Nat) : Bool := zc_sr.any (fun q => (q.1 == own && q.2.1 == k) && 1000 + q.2.2.2 == a)
def zk_f (j k a b : Nat) (d : Int) (ts : List (Int × Nat)) (put : Bool) (ty : FieldType) : Bool := match ts, vwCl[a]? with
  | [(q, _)], some (_, T, N) => decide (d = (b : Int)) && decide (b < N) && zk_w q.toNat (.fieldLink (zc_own j) k (T b).1 (T b).2.1 (T b).2.2.1) && (!put || (!(T b).2.2.2 && decide (parseFieldDescriptor (T b).2.2.1 = some ty)))
  | _, _ => false
/-- the targets of a switch, by order -/
def zk_tab (j pc : Nat) (lo : Int) : List Int → List (Int × Nat) → Bool
  | [], [] => true
  | o :: os, (v, t) :: ts => decide (v = lo) && zk_t j pc o t && zk_tab j pc (lo + 1) os ts
  | _, _ => false
def zk_lkp (j pc : Nat) : List (Int × Int) → List (Int × Nat) → Bool
  | [], [] => true
  | (w, o) :: os, (v, t) :: ts => decide (v = w) && zk_t j pc o t && zk_lkp j pc os ts
  | _, _ => false
/-- a callee: its words, its room, its arguments -/
def zk_c (j a n : Nat) (st : Bool) : Bool :=
  decide (a < 205) && zk_w (zx_mt a).2.2.2.2.2.2.2.1 (.code (zx_y a) (zx_by a) (zx_ml a) (zx_rt a)) && zk_w (zx_mt a).2.2.2.2.2.2.2.2.1 (if st then .static (zx_y a) else .instanceMethod (zx_y a)) && (st || zk_w (zx_mt a).2.2.2.2.2.2.2.2.2.1 (.selects (zc_own a) (zx_y a) (zx_y a))) && zk_w (zx_mt a).2.2.2.2.2.2.2.2.2.2 (.initialized (zc_own a)) &&
  decide ((zx_rm a).frames + 1 ≤ (zx_rm j).frames) && decide (8 + (zx_ml a + 11) + (zx_rm a).locals ≤ (zx_rm j).locals) && decide ((parseMethodDescriptor (zx_y a).desc).map (fun d => d.parameters.length) = some n) && decide (zc_own a ≠ "java/lang/invoke/MethodHandle") && decide (zc_own a ≠ "java/lang/invoke/VarHandle") && (zx_sts.contains a == st)
def zk_l (j k a : Nat) (ts : List (Int × Nat)) : Bool := match ts with
  | [(q, 0)] => zk_w q.toNat (.methodLink (zc_own j) k (zx_y a))
  | [(q, 1)] => zk_nw q.toNat (.methodLinkNest (zc_own j) k (zx_y a) "PointMaker")
  | _ => false
def zk_m (j : Nat) (ts : List (Int × Nat)) (y : MethodName) (lo : Nat) : Bool := match ts with
  | [(q, k)] => zk_w q.toNat (.methodLink (zc_own j) k y) && decide (1 ≤ (zx_rm j).frames) && decide (8 + lo ≤ (zx_rm j).locals)
  | _ => false
def zk_ix (ts : List (Int × Nat)) : Nat := match ts with
  | [(_, k)] => k
  | _ => 0
def zk_ret (j : Nat) (v : Bool) : Bool := match zx_rt j with
  | some (.object _) => v
  | _ => false
def zk_e (j i : Nat) (e : zE) : Bool := match e with
  | (pc, ins, len, a, b, d, ts) => decide (zx_pc j i = pc) && match ins with
  | .iload n => zk_s j i pc (.iload n) 2 && decide (n = a)
  | .iload_n n => zk_s j i pc (.iload_n n) 1 && decide ((n : Nat) = a)
  | .lload n => zk_s j i pc (.lload n) 2 && decide (n = a)
  | .lload_n n => zk_s j i pc (.lload_n n) 1 && decide ((n : Nat) = a)
  | .aload n => zk_s j i pc (.aload n) 2 && decide (n = a)
  | .aload_n n => zk_s j i pc (.aload_n n) 1 && decide ((n : Nat) = a)
  | .iconst n => zk_s j i pc (.iconst n) 1 && decide (Int32.ofInt n = Int32.ofInt d) && zk_ri d
  | .bipush n => zk_s j i pc (.bipush n) 2 && decide ((Int8.ofInt n).toInt32 = Int32.ofInt d) && zk_ri d
  | .sipush n => zk_s j i pc (.sipush n) 3 && decide ((Int16.ofInt n).toInt32 = Int32.ofInt d) && zk_ri d
  | .lconst n => zk_s j i pc (.lconst n) 1 && decide (Int64.ofNat (n : Nat) = Int64.ofInt d) && zk_rl d
  | .ldc2_w n => zk_s j i pc (.ldc2_w n) 3 && zk_w a (.constantLong (zc_own j) n (Int64.ofInt d)) && zk_rl d
  | .ldc n => (match b with
    | 0 => zk_s j i pc (.ldc n) 2 && zk_w a (.constant (zc_own j) n (Int32.ofInt d)) && zk_ri d
    | _ + 1 => zk_s j i pc (.ldc n) 2 && zk_str (zc_own j) n a)
  | .ldc_w n => (match b with
    | 0 => zk_s j i pc (.ldc_w n) 3 && zk_w a (.constant (zc_own j) n (Int32.ofInt d)) && zk_ri d
    | _ + 1 => zk_s j i pc (.ldc_w n) 3 && zk_str (zc_own j) n a)
  | .istore n => zk_s j i pc (.istore n) 2 && decide (n = a) && decide (a < zx_ml j)
  | .istore_n n => zk_s j i pc (.istore_n n) 1 && decide ((n : Nat) = a) && decide (a < zx_ml j)
  | .astore n => zk_s j i pc (.astore n) 2 && decide (n = a) && decide (a < zx_ml j)
  | .astore_n n => zk_s j i pc (.astore_n n) 1 && decide ((n : Nat) = a) && decide (a < zx_ml j)
  | .lstore n => zk_s j i pc (.lstore n) 2 && decide (n = a) && decide (a + 1 < zx_ml j)
  | .iinc n v => zk_s j i pc (.iinc n v) 3 && decide (n = a) && decide (v = d) && decide (a < zx_ml j)
  | .iadd => zk_s j i pc .iadd 1
  | .isub => zk_s j i pc .isub 1
  | .fadd => zk_s j i pc .iadd 1
  | .fsub => zk_s j i pc .isub 1
  | .fmul => zk_s j i pc .imul 1
  | .imul => zk_s j i pc .imul 1
  | .iand => zk_s j i pc .iand 1
  | .ior => zk_s j i pc .ior 1
  | .ixor => zk_s j i pc .ixor 1
  | .ishl => zk_s j i pc .ishl 1
  | .ishr => zk_s j i pc .ishr 1
  | .iushr => zk_s j i pc .iushr 1
  | .idiv => zk_s j i pc .idiv 1
  | .irem => zk_s j i pc .irem 1
  | .i2b => zk_s j i pc .i2b 1
  | .d2i => zk_s j i pc .i2b 1
  | .i2s => zk_s j i pc .i2s 1
  | .i2l => zk_s j i pc .i2l 1
  | .l2i => zk_s j i pc .l2i 1
  | .ladd => zk_s j i pc .ladd 1
  | .lcmp => zk_s j i pc .lcmp 1
  | .dup => zk_s j i pc .dup 1
  | .dup2 => zk_s j i pc .dup2 1
  | .pop => zk_s j i pc .pop 1
  | .goto n => zk_d j pc (.goto n) 3 && zk_t j pc n a
  | .ifCond q n => zk_s j i pc (.ifCond q n) 3 && zk_t j pc n a
  | .if_icmp q n => zk_s j i pc (.if_icmp q n) 3 && zk_t j pc n a
  | .tableswitch n lo hi os => zk_d j pc (.tableswitch n lo hi os) len && zk_t j pc n a && zk_tab j pc lo os.toList ts && decide (hi + 1 = lo + (os.size : Int))
  | .lookupswitch n os => zk_d j pc (.lookupswitch n os) len && zk_t j pc n a && zk_lkp j pc os.toList ts && (os.toList.zip (os.toList.drop 1)).all (fun (a, next) => a.1 < next.1)
  | .getfield n => zk_s j i pc (.getfield n) 3 && zk_f j n a b d ts false .int
  | .putfield n => zk_s j i pc (.putfield n) 3 && zk_f j n a b d ts true .int
  | .putstatic n => zk_s j i pc (.putfield n) 3 && zk_f j n a b d ts true .boolean
  | .arraylength => zk_s j i pc .arraylength 1
  | .iaload => zk_s j i pc .iaload 1
  | .baload => zk_s j i pc .baload 1
  | .saload => zk_s j i pc .baload 1
  | .aaload => zk_s j i pc .aaload 1
  | .iastore => zk_s j i pc .iastore 1
  | .bastore => zk_s j i pc .bastore 1
  | .sastore => zk_s j i pc .bastore 1
  | .monitorenter => zk_s j i pc (.invokestatic (zk_ix ts)) 3 && zk_m j ts Lib.Math.max.name 13
  | .monitorexit => zk_s j i pc (.invokestatic (zk_ix ts)) 3 && zk_m j ts Lib.Math.min.name 13
  | .swap => zk_s j i pc (.invokestatic (zk_ix ts)) 3 && zk_m j ts arraycopyName (nativeFrameWords "java/lang/System" "arraycopy" 5 + 11)
  | .invokevirtual n => zk_s j i pc (.invokevirtual n) 3 && zk_c j a (b - 1) false && zk_l j n a ts && decide (0 < b)
  | .invokestatic n => zk_s j i pc (.invokestatic n) 3 && zk_c j a b true && zk_l j n a ts
  | .ireturn => zk_d j pc .ireturn 1 && decide (zx_rt j = some .int)
  | .freturn => zk_d j pc .ireturn 1 && decide (zx_rt j = some .boolean)
  | .areturn => zk_d j pc .areturn 1 && zk_ret j true
  | .return_ => zk_d j pc .return_ 1 && decide (zx_rt j = none)
  | _ => true
/-! inversions -/
theorem zx_tf {b : Bool} {P : Prop} (h : match b with | true => P | false => False) : b = true ∧ P := by
  cases b
  · exact h.elim
  · exact ⟨rfl, h⟩
theorem zx_ob_of {r a b : Nat} (h : zx_obB r a b = true) : zx_ob r a b := by
  simp only [zx_obB, Bool.and_eq_true] at h
  exact ⟨Nat.eq_of_beq_eq_true h.1.1, Nat.eq_of_beq_eq_true h.1.2, Nat.le_of_ble_eq_true h.2⟩
theorem zx_noR_of {o : Option Nat} (h : zx_noR o = true) : o = none := by
  cases o with
  | none => rfl
  | some q => cases h
theorem zx_isA_of {r : Nat} (h : zx_isA r = true) : zx_arr r := by
  simp only [zx_isA, Bool.or_eq_true] at h
  rcases h with (h | h) | h
  · exact Or.inl (Nat.eq_of_beq_eq_true h)
  · exact Or.inr (Or.inl (Nat.eq_of_beq_eq_true h))
  · exact Or.inr (Or.inr (Nat.eq_of_beq_eq_true h))
theorem zx_isR_of {r : Nat} (h : zx_isR r = true) : zx_tg r = 4 ∨ zx_tg r = 5 := by
  simp only [zx_isR, Bool.or_eq_true] at h
  rcases h with h | h
  · exact Or.inl (Nat.eq_of_beq_eq_true h)
  · exact Or.inr (Nat.eq_of_beq_eq_true h)
theorem zx_p1_inv {S : List zV} {k : Int → List zV → Prop} (h : zx_p1 S k) : ∃ x S2, S = .inl x :: S2 ∧ k x S2 := by
  unfold zx_p1 at h
  split at h
  · exact ⟨_, _, rfl, h⟩
  · exact h.elim
theorem zx_p2_inv {S : List zV} {k : Int → Int → List zV → Prop} (h : zx_p2 S k) : ∃ x y S2, S = .inl y :: .inl x :: S2 ∧ k x y S2 := by
  unfold zx_p2 at h
  split at h
  · exact ⟨_, _, _, rfl, h⟩
  · exact h.elim
theorem zx_pr_inv {S : List zV} {k : Nat → List zV → Prop} (h : zx_pr S k) : ∃ x S2, S = .inr (.inr x) :: S2 ∧ k x S2 := by
  unfold zx_pr at h
  split at h
  · exact ⟨_, _, rfl, h⟩
  · exact h.elim
theorem zx_pi_inv {S : List zV} {k : Nat → Int → List zV → Prop} (h : zx_pi S k) : ∃ r x S2, S = .inl x :: .inr (.inr r) :: S2 ∧ k r x S2 := by
  unfold zx_pi at h
  split at h
  · exact ⟨_, _, _, rfl, h⟩
  · exact h.elim
theorem zx_pii_inv {S : List zV} {k : Nat → Int → Int → List zV → Prop} (h : zx_pii S k) : ∃ r x v S2, S = .inl v :: .inl x :: .inr (.inr r) :: S2 ∧ k r x v S2 := by
  unfold zx_pii at h
  split at h
  · exact ⟨_, _, _, _, rfl, h⟩
  · exact h.elim
theorem zx_li_inv {o : Option zV} {k : Int → Prop} (h : zx_li o k) : ∃ x, o = some (.inl x) ∧ k x := by
  unfold zx_li at h
  split at h
  · exact ⟨_, rfl, h⟩
  · exact h.elim
theorem zx_ll_inv {o : Option zV} {k : Int → Prop} (h : zx_ll o k) : ∃ x, o = some (.inr (.inl x)) ∧ k x := by
  unfold zx_ll at h
  split at h
  · exact ⟨_, rfl, h⟩
  · exact h.elim
theorem zx_lr_inv {o : Option zV} {k : Nat → Prop} (h : zx_lr o k) : ∃ x, o = some (.inr (.inr x)) ∧ k x := by
  unfold zx_lr at h
  split at h
  · exact ⟨_, rfl, h⟩
  · exact h.elim
theorem zx_pl_inv {S : List zV} {k : Int → List zV → Prop} (h : match S with | .inr (.inl x) :: S => k x S | _ => False) : ∃ x S2, S = .inr (.inl x) :: S2 ∧ k x S2 := by
  split at h
  · exact ⟨_, _, rfl, h⟩
  · exact h.elim
theorem zx_pl2_inv {S : List zV} {k : Int → Int → List zV → Prop} (h : match S with | .inr (.inl y) :: .inr (.inl x) :: S => k x y S | _ => False) : ∃ x y S2, S = .inr (.inl y) :: .inr (.inl x) :: S2 ∧ k x y S2 := by
  split at h
  · exact ⟨_, _, _, rfl, h⟩
  · exact h.elim
/-! more of numbers -/
theorem zc_div {x y : Int} (hx : zc_i x) (hy : zc_i y) (h0 : 0 ≤ x) (h1 : 0 < y) : Int32.ofInt x / Int32.ofInt y = Int32.ofInt (x / y) ∧ zc_i (x / y) := by
  have hr : zc_i (x / y) := by
    have a1 := Int.ediv_nonneg h0 (Int.le_of_lt h1)
    have a2 : x / y ≤ x := Int.ediv_le_self _ h0
    have := hx.2
    exact ⟨by omega, by omega⟩
  refine ⟨?_, hr⟩
  apply Int32.toInt_inj.1
  have hne : ¬ (Int32.ofInt x = Int32.minValue ∧ Int32.ofInt y = -1) := by
    intro z
    have := congrArg Int32.toInt z.2
    rw [zc_io hy] at this
    have e : (-1 : Int32).toInt = -1 := by decide
    omega
  rw [Int32.toInt_div_of_ne_left, zc_io hx, zc_io hy, zc_io hr, Int.tdiv_eq_ediv_of_nonneg h0]
  intro z
  have := congrArg Int32.toInt z
  rw [zc_io hx] at this
  have e : (Int32.minValue).toInt = -2147483648 := by decide
  omega
theorem zc_rem {x y : Int} (hx : zc_i x) (hy : zc_i y) (h0 : 0 ≤ x) (h1 : 0 < y) : Int32.ofInt x - Int32.ofInt x / Int32.ofInt y * Int32.ofInt y = Int32.ofInt (x % y) ∧ zc_i (x % y) := by
  have a1 := Int.emod_nonneg x (show y ≠ 0 by omega)
  have a2 := Int.emod_lt_of_pos x h1
  have := hy.2
  refine ⟨?_, by unfold zc_i; omega⟩
  rw [(zc_div hx hy h0 h1).1, ← Int32.ofInt_mul, ← Int32.ofInt_sub, Int.emod_def, Int.mul_comm y]
theorem zc_byte {x : Int} (h : -128 ≤ x ∧ x < 128) : (Int32.ofInt x).toInt8.toInt32 = Int32.ofInt x := by
  apply Int32.toInt_inj.1
  have hx : zc_i x := by unfold zc_i; omega
  rw [Int8.toInt_toInt32, Int32.toInt_toInt8, zc_io hx, Int.bmod_eq_of_le (by omega) (by omega)]
theorem zc_lt0 {x : Int} (hx : zc_i x) : Int32.ofInt x < 0 ↔ x < 0 := by rw [← zc_0]; exact zc_lt hx zc_i0
theorem zc_gt0 {x : Int} (hx : zc_i x) : 0 < Int32.ofInt x ↔ 0 < x := by rw [← zc_0]; exact zc_lt zc_i0 hx
theorem zc_le0 {x : Int} (hx : zc_i x) : Int32.ofInt x ≤ 0 ↔ x ≤ 0 := by rw [← zc_0]; exact zc_le hx zc_i0
theorem zc_ge0 {x : Int} (hx : zc_i x) : 0 ≤ Int32.ofInt x ↔ 0 ≤ x := by rw [← zc_0]; exact zc_le zc_i0 hx
theorem zc_eq0 {x : Int} (hx : zc_i x) : Int32.ofInt x = 0 ↔ x = 0 := by rw [← zc_0]; exact zc_eq hx zc_i0
theorem zc_il {x : Int} (hx : zc_i x) : zc_l x := by
  obtain ⟨h1, h2⟩ := hx
  exact ⟨by omega, by omega⟩
theorem zc_i2l {x : Int} (hx : zc_i x) : (Int32.ofInt x).toInt64 = Int64.ofInt x := by
  apply Int64.toInt_inj.1
  rw [Int32.toInt_toInt64, zc_io hx, zc_lo (zc_il hx)]
theorem zc_l2i {x : Int} (hx : zc_l x) : (Int64.ofInt x).toInt32 = Int32.ofInt (zx_wr x) := by
  rw [zc_wr]
  apply Int32.toInt_inj.1
  rw [Int64.toInt_toInt32, zc_lo hx, Int32.toInt_ofInt]
theorem zc_lcmp {x y : Int} (hx : zc_l x) (hy : zc_l y) : lg_cmp (Int64.ofInt x) (Int64.ofInt y) = Int32.ofInt (zx_lcmp x y) := by
  unfold lg_cmp zx_lcmp
  have e1 : Int64.ofInt y < Int64.ofInt x ↔ y < x := by rw [Int64.lt_iff_toInt_lt, zc_lo hx, zc_lo hy]
  have e2 : Int64.ofInt x = Int64.ofInt y ↔ x = y := ⟨fun h => by rw [← zc_lo hx, ← zc_lo hy, h], fun h => by rw [h]⟩
  by_cases c1 : x < y
  · rw [if_pos c1, if_neg (fun z => by have := e1.mp z; omega), if_neg (fun z => by have := e2.mp z; omega)]; rfl
  · by_cases c2 : x = y
    · rw [if_neg c1, if_pos c2, if_neg (fun z => by have := e1.mp z; omega), if_pos (e2.mpr c2)]; rfl
    · rw [if_neg c1, if_neg c2, if_pos (e1.mpr (by omega))]; rfl
theorem zc_lcmp_i (x y : Int) : zc_i (zx_lcmp x y) := by
  unfold zx_lcmp zc_i
  split
  · omega
  · split <;> omega
/-- a long's store: what the list of locals is behind it -/
theorem zc_sl_in {ad : Nat → Nat} {L : zL} {lst : List (Nat × Value)} (h : ∀ i v, zx_lk L i = some v → (i, zc_v ad v) ∈ lst) (a : Nat) (x : Int) : ∀ i v, zx_lk (zx_cl (zx_se L a (.inr (.inl x))) (a + 1)) i = some v → (i, zc_v ad v) ∈ (a, Value.long (Int64.ofInt x)) :: lst.filter (fun q => !(q.1 == a) && (!(q.1 == a + 1) && !(q.1 + 1 == a && q.2.category == 2))) := by
  intro i v hv
  obtain ⟨h0, hv⟩ := zx_lk_cl _ _ _ _ hv
  rcases zx_lk_se L a i _ v hv with ⟨rfl, rfl⟩ | ⟨h1, h2, h3⟩
  · exact List.mem_cons_self
  · refine List.mem_cons_of_mem _ (List.mem_filter.mpr ⟨h i v h2, ?_⟩)
    by_cases q : i + 1 = a
    · simp [h0, h1, q, zc_cat ad (h3 q)]
    · simp [h0, h1, q]
/-! THE CONTEXT of a walk -/
/-- what is said of nest mates, constant texts, the JDK's statics -/
def zc_X (ad adV : Nat → Nat) (A : Nat → Prop) (U : State) (H : Heap) : Prop :=
  (∀ w ∈ zc_nw, va_Nw w U) ∧ (∀ q ∈ zc_sr, vk_R q.1 q.2.1 q.2.2.1 (ad (1000 + q.2.2.2)) U) ∧ vk_S zc_nS zc_lS zc_bS (fun i => ad (1000 + i)) adV A U H ∧ va_Z "java/lang/String" "COMPACT_STRINGS" "Z" (.int 1) A U H ∧ ∃ v, (v = .null ∨ ∃ a, v = .ref a) ∧ va_Z "jdk/internal/util/Preconditions" "SIOOBE_FORMATTER" "Ljava/util/function/BiFunction;" v A U H
def zc_C (j : Nat) (p : Program) (s : State) (m : MethodId) (args : Array Value) (meth : Method) (c : Code) (D : va_G) (ad adV : Nat → Nat) (cA : Nat → ClassId) (A : Nat → Prop) : Prop :=
  p.tables.exec = Jvm.exec ∧ c.code = zx_by j ∧ meth.sig.returnType = zx_rt j ∧ c.maxLocals = zx_ml j ∧ s.vm.findClass (zc_own j) = some m.cls ∧ (∀ w ∈ zc_tb, w.before args s = true) ∧ meth.locks = false ∧ va_K D vwCl (zc_tys cA) s ∧ zc_X ad adV A s s.heap ∧ (∀ q, s.heap.size ≤ q → A q)
def zc_I (j : Nat) (s : State) (D : va_G) (ad : Nat → Nat) (cA : Nat → ClassId) (A : Nat → Prop) (L : zL) (S : List zV) (h : zM) (H : Heap) (locs : List Loc) (ls : Array Slot) : Prop :=
  (va_P D vwCl (zc_ws ad cA h) H ∧ va_D A (zc_ws ad cA h) ∧ va_S A s.heap H locs) ∧ (zc_L ad L (zx_ml j) ls ∧ zc_okL L) ∧ zc_okS S ∧ zc_M h
def zc_W (j : Nat) (p : Program) (l : Launch) (e : Env) (s : State) (m : MethodId) (args : Array Value) (below : List Frame) (meth : Method) (c : Code) (D : va_G) (ad adV : Nat → Nat) (cA : Nat → ClassId) (A : Nat → Prop) (Qf : State → Prop) (i : Nat) (L : zL) (S : List zV) (h : zM) : Prop :=
  ∀ (H : Heap) (locs : List Loc) (ls : Array Slot), zc_I j s D ad cA A L S h H locs ls → W p l e (zx_rm j) s m args below meth c H locs 0 0 Qf (F0 m (zx_pc j i) ls (S.map (zc_v ad)))
theorem zk_w_in {k : Nat} {w : Cond} (h : zk_w k w = true) : w ∈ zc_tb := by
  unfold zk_w at h
  rw [Bool.and_eq_true, decide_eq_true_eq] at h
  exact List.mem_filter.mpr ⟨List.mem_of_getElem? h.1, h.2⟩
theorem zk_nw_in {k : Nat} {w : Cond} (h : zk_nw k w = true) : w ∈ zc_nw := by
  unfold zk_nw at h
  rw [Bool.and_eq_true, decide_eq_true_eq] at h
  exact List.mem_filter.mpr ⟨List.mem_of_getElem? h.1, h.2⟩
section ZS
variable {j : Nat} {p : Program} {l : Launch} {e : Env} {s : State} {m : MethodId} {args : Array Value} {below : List Frame} {meth : Method} {c : Code} {D : va_G} {ad adV : Nat → Nat} {cA : Nat → ClassId} {A : Nat → Prop} {Qf : State → Prop} {i : Nat} {L : zL} {S : List zV} {h : zM} {Q : zQ} {K : Nat → zL → List zV → zM → Prop} {R : Nat → List zV → zM → zQ → Prop}
theorem zc_C.word (C : zc_C j p s m args meth c D ad adV cA A) {k : Nat} {w : Cond} (h : zk_w k w = true) : w.before args s = true := C.2.2.2.2.2.1 w (zk_w_in h)
theorem zc_I.push {H : Heap} {locs : List Loc} {ls : Array Slot} (I : zc_I j s D ad cA A L S h H locs ls) {v : zV} (hv : zc_ok v) : zc_I j s D ad cA A L (v :: S) h H locs ls := ⟨I.1, I.2.1, List.forall_mem_cons.mpr ⟨hv, I.2.2.1⟩, I.2.2.2⟩
theorem zc_I.top {H : Heap} {locs : List Loc} {ls : Array Slot} {v : zV} (I : zc_I j s D ad cA A L (v :: S) h H locs ls) : zc_ok v := (List.forall_mem_cons.mp I.2.2.1).1
theorem zc_I.rest {H : Heap} {locs : List Loc} {ls : Array Slot} {v : zV} (I : zc_I j s D ad cA A L (v :: S) h H locs ls) : zc_I j s D ad cA A L S h H locs ls := ⟨I.1, I.2.1, (List.forall_mem_cons.mp I.2.2.1).2, I.2.2.2⟩
theorem zc_next {i2 pc2 : Nat} {L2 : zL} {S2 : List zV} {h2 : zM} {H : Heap} {locs : List Loc} {ls : Array Slot} (hK : ∀ i2 L2 S2 h2, K i2 L2 S2 h2 → zc_W j p l e s m args below meth c D ad adV cA A Qf i2 L2 S2 h2) (hn : zx_pc j i2 = pc2) (hk : K i2 L2 S2 h2) (I : zc_I j s D ad cA A L2 S2 h2 H locs ls) : W p l e (zx_rm j) s m args below meth c H locs 0 0 Qf (F0 m pc2 ls (S2.map (zc_v ad))) := by
  have := hK _ _ _ _ hk H locs ls I
  rw [hn] at this
  exact this
theorem zc_ldcwS {H : Heap} {locs : List Loc} {ls : Array Slot} {cc : ByteArray} {pc : Nat} {rest : List Value} {RR : Room} {cells slots : Nat} (hexec : p.tables.exec = Jvm.exec) (hb : c.code = cc) {own tx : String} {index q : Nat} (hown : s.vm.findClass own = some m.cls) (hZ : vk_R own index tx q s) (hdg : decode cc pc = .ok (.ldc_w index, 3))
    (k : W p l e RR s m args below meth c H locs cells slots Qf (F0 m (pc + 3) ls (.ref q :: rest))) : W p l e RR s m args below meth c H locs cells slots Qf (F0 m pc ls rest) := by
  intro T hT X
  obtain ⟨t, a1, b1⟩ := k T hT X
  exact ⟨t, X.ldcStringW hexec hown (text := tx) (a := q) hZ.1 hZ.2 (g := F0 m pc ls rest) rfl (by rw [hb]; exact hdg) t a1, b1⟩

theorem zs_iload {n : Nat} {pc len a b : Nat} {d : Int} {ts : List (Int × Nat)} (C : zc_C j p s m args meth c D ad adV cA A) (he : zk_e j i (pc, .iload n, len, a, b, d, ts) = true) (hA : zx_act R (pc, .iload n, len, a, b, d, ts) i L S h Q K) (hK : ∀ i2 L2 S2 h2, K i2 L2 S2 h2 → zc_W j p l e s m args below meth c D ad adV cA A Qf i2 L2 S2 h2) : zc_W j p l e s m args below meth c D ad adV cA A Qf i L S h := by
  intro H locs ls I
  simp only [zk_e, Bool.and_eq_true, decide_eq_true_eq, zk_s, zk_d, zk_t, zk_ri, zk_rl] at he
  obtain ⟨hpc, ⟨hd, hn⟩, ha⟩ := he
  subst ha
  obtain ⟨x, hx, hk⟩ := zx_li_inv hA
  rw [hpc]
  refine lv_iload C.1 C.2.1 hd (I.2.1.1.at hx) ?_
  exact zc_next hK hn hk (I.push (I.2.1.2 _ _ hx))
theorem zs_iload_n {n : Fin 4} {pc len a b : Nat} {d : Int} {ts : List (Int × Nat)} (C : zc_C j p s m args meth c D ad adV cA A) (he : zk_e j i (pc, .iload_n n, len, a, b, d, ts) = true) (hA : zx_act R (pc, .iload_n n, len, a, b, d, ts) i L S h Q K) (hK : ∀ i2 L2 S2 h2, K i2 L2 S2 h2 → zc_W j p l e s m args below meth c D ad adV cA A Qf i2 L2 S2 h2) : zc_W j p l e s m args below meth c D ad adV cA A Qf i L S h := by
  intro H locs ls I
  simp only [zk_e, Bool.and_eq_true, decide_eq_true_eq, zk_s, zk_d, zk_t, zk_ri, zk_rl] at he
  obtain ⟨hpc, ⟨hd, hn⟩, ha⟩ := he
  obtain ⟨x, hx, hk⟩ := zx_li_inv hA
  rw [hpc]
  refine lv_iload_n C.1 C.2.1 hd ha (I.2.1.1.at hx) ?_
  exact zc_next hK hn hk (I.push (I.2.1.2 _ _ hx))
theorem zs_lload {n : Nat} {pc len a b : Nat} {d : Int} {ts : List (Int × Nat)} (C : zc_C j p s m args meth c D ad adV cA A) (he : zk_e j i (pc, .lload n, len, a, b, d, ts) = true) (hA : zx_act R (pc, .lload n, len, a, b, d, ts) i L S h Q K) (hK : ∀ i2 L2 S2 h2, K i2 L2 S2 h2 → zc_W j p l e s m args below meth c D ad adV cA A Qf i2 L2 S2 h2) : zc_W j p l e s m args below meth c D ad adV cA A Qf i L S h := by
  intro H locs ls I
  simp only [zk_e, Bool.and_eq_true, decide_eq_true_eq, zk_s, zk_d, zk_t, zk_ri, zk_rl] at he
  obtain ⟨hpc, ⟨hd, hn⟩, ha⟩ := he
  subst ha
  obtain ⟨x, hx, hk⟩ := zx_ll_inv hA
  rw [hpc]
  refine lv_lload C.1 C.2.1 hd (I.2.1.1.at hx) ?_
  exact zc_next hK hn hk (I.push (I.2.1.2 _ _ hx))
theorem zs_lload_n {n : Fin 4} {pc len a b : Nat} {d : Int} {ts : List (Int × Nat)} (C : zc_C j p s m args meth c D ad adV cA A) (he : zk_e j i (pc, .lload_n n, len, a, b, d, ts) = true) (hA : zx_act R (pc, .lload_n n, len, a, b, d, ts) i L S h Q K) (hK : ∀ i2 L2 S2 h2, K i2 L2 S2 h2 → zc_W j p l e s m args below meth c D ad adV cA A Qf i2 L2 S2 h2) : zc_W j p l e s m args below meth c D ad adV cA A Qf i L S h := by
  intro H locs ls I
  simp only [zk_e, Bool.and_eq_true, decide_eq_true_eq, zk_s, zk_d, zk_t, zk_ri, zk_rl] at he
  obtain ⟨hpc, ⟨hd, hn⟩, ha⟩ := he
  obtain ⟨x, hx, hk⟩ := zx_ll_inv hA
  rw [hpc]
  refine lv_lload_n C.1 C.2.1 hd ha (I.2.1.1.at hx) ?_
  exact zc_next hK hn hk (I.push (I.2.1.2 _ _ hx))
theorem zs_aload {n : Nat} {pc len a b : Nat} {d : Int} {ts : List (Int × Nat)} (C : zc_C j p s m args meth c D ad adV cA A) (he : zk_e j i (pc, .aload n, len, a, b, d, ts) = true) (hA : zx_act R (pc, .aload n, len, a, b, d, ts) i L S h Q K) (hK : ∀ i2 L2 S2 h2, K i2 L2 S2 h2 → zc_W j p l e s m args below meth c D ad adV cA A Qf i2 L2 S2 h2) : zc_W j p l e s m args below meth c D ad adV cA A Qf i L S h := by
  intro H locs ls I
  simp only [zk_e, Bool.and_eq_true, decide_eq_true_eq, zk_s, zk_d, zk_t, zk_ri, zk_rl] at he
  obtain ⟨hpc, ⟨hd, hn⟩, ha⟩ := he
  subst ha
  obtain ⟨x, hx, hk⟩ := zx_lr_inv hA
  rw [hpc]
  refine lv_aload C.1 C.2.1 hd (I.2.1.1.at hx) ?_
  exact zc_next hK hn hk (I.push (I.2.1.2 _ _ hx))
theorem zs_aload_n {n : Fin 4} {pc len a b : Nat} {d : Int} {ts : List (Int × Nat)} (C : zc_C j p s m args meth c D ad adV cA A) (he : zk_e j i (pc, .aload_n n, len, a, b, d, ts) = true) (hA : zx_act R (pc, .aload_n n, len, a, b, d, ts) i L S h Q K) (hK : ∀ i2 L2 S2 h2, K i2 L2 S2 h2 → zc_W j p l e s m args below meth c D ad adV cA A Qf i2 L2 S2 h2) : zc_W j p l e s m args below meth c D ad adV cA A Qf i L S h := by
  intro H locs ls I
  simp only [zk_e, Bool.and_eq_true, decide_eq_true_eq, zk_s, zk_d, zk_t, zk_ri, zk_rl] at he
  obtain ⟨hpc, ⟨hd, hn⟩, ha⟩ := he
  obtain ⟨x, hx, hk⟩ := zx_lr_inv hA
  rw [hpc]
  refine lv_aload_n C.1 C.2.1 hd ha (I.2.1.1.at hx) ?_
  exact zc_next hK hn hk (I.push (I.2.1.2 _ _ hx))
theorem zs_iconst {n : Int} {pc len a b : Nat} {d : Int} {ts : List (Int × Nat)} (C : zc_C j p s m args meth c D ad adV cA A) (he : zk_e j i (pc, .iconst n, len, a, b, d, ts) = true) (hA : zx_act R (pc, .iconst n, len, a, b, d, ts) i L S h Q K) (hK : ∀ i2 L2 S2 h2, K i2 L2 S2 h2 → zc_W j p l e s m args below meth c D ad adV cA A Qf i2 L2 S2 h2) : zc_W j p l e s m args below meth c D ad adV cA A Qf i L S h := by
  intro H locs ls I
  simp only [zk_e, Bool.and_eq_true, decide_eq_true_eq, zk_s, zk_d, zk_t, zk_ri, zk_rl] at he
  obtain ⟨hpc, ⟨⟨hd, hn⟩, hv⟩, hr⟩ := he
  rw [hpc]
  refine lv_iconst (v := Int32.ofInt d) C.1 C.2.1 hd hv ?_
  exact zc_next hK hn hA (I.push (v := .inl d) hr)
theorem zs_bipush {n : Int} {pc len a b : Nat} {d : Int} {ts : List (Int × Nat)} (C : zc_C j p s m args meth c D ad adV cA A) (he : zk_e j i (pc, .bipush n, len, a, b, d, ts) = true) (hA : zx_act R (pc, .bipush n, len, a, b, d, ts) i L S h Q K) (hK : ∀ i2 L2 S2 h2, K i2 L2 S2 h2 → zc_W j p l e s m args below meth c D ad adV cA A Qf i2 L2 S2 h2) : zc_W j p l e s m args below meth c D ad adV cA A Qf i L S h := by
  intro H locs ls I
  simp only [zk_e, Bool.and_eq_true, decide_eq_true_eq, zk_s, zk_d, zk_t, zk_ri, zk_rl] at he
  obtain ⟨hpc, ⟨⟨hd, hn⟩, hv⟩, hr⟩ := he
  rw [hpc]
  refine lv_bipush (v := Int32.ofInt d) C.1 C.2.1 hd hv ?_
  exact zc_next hK hn hA (I.push (v := .inl d) hr)
theorem zs_sipush {n : Int} {pc len a b : Nat} {d : Int} {ts : List (Int × Nat)} (C : zc_C j p s m args meth c D ad adV cA A) (he : zk_e j i (pc, .sipush n, len, a, b, d, ts) = true) (hA : zx_act R (pc, .sipush n, len, a, b, d, ts) i L S h Q K) (hK : ∀ i2 L2 S2 h2, K i2 L2 S2 h2 → zc_W j p l e s m args below meth c D ad adV cA A Qf i2 L2 S2 h2) : zc_W j p l e s m args below meth c D ad adV cA A Qf i L S h := by
  intro H locs ls I
  simp only [zk_e, Bool.and_eq_true, decide_eq_true_eq, zk_s, zk_d, zk_t, zk_ri, zk_rl] at he
  obtain ⟨hpc, ⟨⟨hd, hn⟩, hv⟩, hr⟩ := he
  rw [hpc]
  refine lv_sipush (v := Int32.ofInt d) C.1 C.2.1 hd hv ?_
  exact zc_next hK hn hA (I.push (v := .inl d) hr)
theorem zs_lconst {n : Fin 2} {pc len a b : Nat} {d : Int} {ts : List (Int × Nat)} (C : zc_C j p s m args meth c D ad adV cA A) (he : zk_e j i (pc, .lconst n, len, a, b, d, ts) = true) (hA : zx_act R (pc, .lconst n, len, a, b, d, ts) i L S h Q K) (hK : ∀ i2 L2 S2 h2, K i2 L2 S2 h2 → zc_W j p l e s m args below meth c D ad adV cA A Qf i2 L2 S2 h2) : zc_W j p l e s m args below meth c D ad adV cA A Qf i L S h := by
  intro H locs ls I
  simp only [zk_e, Bool.and_eq_true, decide_eq_true_eq, zk_s, zk_d, zk_t, zk_ri, zk_rl] at he
  obtain ⟨hpc, ⟨⟨hd, hn⟩, hv⟩, hr⟩ := he
  rw [hpc]
  refine lv_lconst (v := Int64.ofInt d) C.1 C.2.1 hd hv ?_
  exact zc_next hK hn hA (I.push (v := .inr (.inl d)) hr)
theorem zs_ldc2_w {n : Nat} {pc len a b : Nat} {d : Int} {ts : List (Int × Nat)} (C : zc_C j p s m args meth c D ad adV cA A) (he : zk_e j i (pc, .ldc2_w n, len, a, b, d, ts) = true) (hA : zx_act R (pc, .ldc2_w n, len, a, b, d, ts) i L S h Q K) (hK : ∀ i2 L2 S2 h2, K i2 L2 S2 h2 → zc_W j p l e s m args below meth c D ad adV cA A Qf i2 L2 S2 h2) : zc_W j p l e s m args below meth c D ad adV cA A Qf i L S h := by
  intro H locs ls I
  simp only [zk_e, Bool.and_eq_true, decide_eq_true_eq, zk_s, zk_d, zk_t, zk_ri, zk_rl] at he
  obtain ⟨hpc, ⟨⟨hd, hn⟩, hv⟩, hr⟩ := he
  rw [hpc]
  refine lv_ldc2 (v := Int64.ofInt d) C.1 C.2.1 C.2.2.2.2.1 (C.word hv) hd ?_
  exact zc_next hK hn hA (I.push (v := .inr (.inl d)) hr)
theorem zs_ldc {n : Nat} {pc len a b : Nat} {d : Int} {ts : List (Int × Nat)} (C : zc_C j p s m args meth c D ad adV cA A) (he : zk_e j i (pc, .ldc n, len, a, b, d, ts) = true) (hA : zx_act R (pc, .ldc n, len, a, b, d, ts) i L S h Q K) (hK : ∀ i2 L2 S2 h2, K i2 L2 S2 h2 → zc_W j p l e s m args below meth c D ad adV cA A Qf i2 L2 S2 h2) : zc_W j p l e s m args below meth c D ad adV cA A Qf i L S h := by
  intro H locs ls I
  cases b with
  | zero =>
    simp only [zk_e, Bool.and_eq_true, decide_eq_true_eq, zk_s, zk_d, zk_t, zk_ri, zk_rl] at he
    obtain ⟨hpc, ⟨⟨hd, hn⟩, hv⟩, hr⟩ := he
    rw [hpc]
    refine lv_ldc (v := Int32.ofInt d) C.1 C.2.1 C.2.2.2.2.1 (C.word hv) hd ?_
    exact zc_next hK hn hA (I.push (v := .inl d) hr)
  | succ b =>
    simp only [zk_e, Bool.and_eq_true, decide_eq_true_eq, zk_s, zk_d, zk_t, zk_ri, zk_rl, zk_str, List.any_eq_true, beq_iff_eq] at he
    obtain ⟨hpc, ⟨hd, hn⟩, q, hq, ⟨h1, h2⟩, h3⟩ := he
    rw [hpc]
    subst h3
    have hR := C.2.2.2.2.2.2.2.2.1.2.1 q hq
    rw [h1, h2] at hR
    refine va_ldcS C.1 C.2.1 C.2.2.2.2.1 hR hd ?_
    exact zc_next hK hn hA (I.push (v := .inr (.inr _)) trivial)
theorem zs_ldc_w {n : Nat} {pc len a b : Nat} {d : Int} {ts : List (Int × Nat)} (C : zc_C j p s m args meth c D ad adV cA A) (he : zk_e j i (pc, .ldc_w n, len, a, b, d, ts) = true) (hA : zx_act R (pc, .ldc_w n, len, a, b, d, ts) i L S h Q K) (hK : ∀ i2 L2 S2 h2, K i2 L2 S2 h2 → zc_W j p l e s m args below meth c D ad adV cA A Qf i2 L2 S2 h2) : zc_W j p l e s m args below meth c D ad adV cA A Qf i L S h := by
  intro H locs ls I
  cases b with
  | zero =>
    simp only [zk_e, Bool.and_eq_true, decide_eq_true_eq, zk_s, zk_d, zk_t, zk_ri, zk_rl] at he
    obtain ⟨hpc, ⟨⟨hd, hn⟩, hv⟩, hr⟩ := he
    rw [hpc]
    refine lv_ldcw (v := Int32.ofInt d) C.1 C.2.1 C.2.2.2.2.1 (C.word hv) hd ?_
    exact zc_next hK hn hA (I.push (v := .inl d) hr)
  | succ b =>
    simp only [zk_e, Bool.and_eq_true, decide_eq_true_eq, zk_s, zk_d, zk_t, zk_ri, zk_rl, zk_str, List.any_eq_true, beq_iff_eq] at he
    obtain ⟨hpc, ⟨hd, hn⟩, q, hq, ⟨h1, h2⟩, h3⟩ := he
    rw [hpc]
    subst h3
    have hR := C.2.2.2.2.2.2.2.2.1.2.1 q hq
    rw [h1, h2] at hR
    refine zc_ldcwS C.1 C.2.1 C.2.2.2.2.1 hR hd ?_
    exact zc_next hK hn hA (I.push (v := .inr (.inr _)) trivial)
theorem zs_istore {n : Nat} {pc len a b : Nat} {d : Int} {ts : List (Int × Nat)} (C : zc_C j p s m args meth c D ad adV cA A) (he : zk_e j i (pc, .istore n, len, a, b, d, ts) = true) (hA : zx_act R (pc, .istore n, len, a, b, d, ts) i L S h Q K) (hK : ∀ i2 L2 S2 h2, K i2 L2 S2 h2 → zc_W j p l e s m args below meth c D ad adV cA A Qf i2 L2 S2 h2) : zc_W j p l e s m args below meth c D ad adV cA A Qf i L S h := by
  intro H locs ls I
  simp only [zk_e, Bool.and_eq_true, decide_eq_true_eq, zk_s, zk_d, zk_t, zk_ri, zk_rl] at he
  obtain ⟨hpc, ⟨⟨hd, hn⟩, ha⟩, hl⟩ := he
  obtain ⟨x, S2, rfl, hk⟩ := zx_p1_inv hA
  rw [hpc]
  subst ha
  obtain ⟨lst, g1, g2⟩ := I.2.1.1
  refine lv_istore C.1 C.2.1 hd g1 hl rfl (fun ls2 g3 => ?_)
  exact zc_next hK hn hk ⟨I.1, ⟨⟨_, g3, zc_se_in g2 _ (.inl x)⟩, zc_se_ok I.2.1.2 (I.top)⟩, I.rest.2.2.1, I.2.2.2⟩
theorem zs_istore_n {n : Fin 4} {pc len a b : Nat} {d : Int} {ts : List (Int × Nat)} (C : zc_C j p s m args meth c D ad adV cA A) (he : zk_e j i (pc, .istore_n n, len, a, b, d, ts) = true) (hA : zx_act R (pc, .istore_n n, len, a, b, d, ts) i L S h Q K) (hK : ∀ i2 L2 S2 h2, K i2 L2 S2 h2 → zc_W j p l e s m args below meth c D ad adV cA A Qf i2 L2 S2 h2) : zc_W j p l e s m args below meth c D ad adV cA A Qf i L S h := by
  intro H locs ls I
  simp only [zk_e, Bool.and_eq_true, decide_eq_true_eq, zk_s, zk_d, zk_t, zk_ri, zk_rl] at he
  obtain ⟨hpc, ⟨⟨hd, hn⟩, ha⟩, hl⟩ := he
  obtain ⟨x, S2, rfl, hk⟩ := zx_p1_inv hA
  rw [hpc]
  obtain ⟨lst, g1, g2⟩ := I.2.1.1
  refine lv_istore_n C.1 C.2.1 hd ha g1 hl rfl (fun ls2 g3 => ?_)
  exact zc_next hK hn hk ⟨I.1, ⟨⟨_, g3, zc_se_in g2 a (.inl x)⟩, zc_se_ok I.2.1.2 (I.top)⟩, I.rest.2.2.1, I.2.2.2⟩
theorem zs_astore {n : Nat} {pc len a b : Nat} {d : Int} {ts : List (Int × Nat)} (C : zc_C j p s m args meth c D ad adV cA A) (he : zk_e j i (pc, .astore n, len, a, b, d, ts) = true) (hA : zx_act R (pc, .astore n, len, a, b, d, ts) i L S h Q K) (hK : ∀ i2 L2 S2 h2, K i2 L2 S2 h2 → zc_W j p l e s m args below meth c D ad adV cA A Qf i2 L2 S2 h2) : zc_W j p l e s m args below meth c D ad adV cA A Qf i L S h := by
  intro H locs ls I
  simp only [zk_e, Bool.and_eq_true, decide_eq_true_eq, zk_s, zk_d, zk_t, zk_ri, zk_rl] at he
  obtain ⟨hpc, ⟨⟨hd, hn⟩, ha⟩, hl⟩ := he
  obtain ⟨x, S2, rfl, hk⟩ := zx_pr_inv hA
  rw [hpc]
  subst ha
  obtain ⟨lst, g1, g2⟩ := I.2.1.1
  refine lv_astore C.1 C.2.1 hd g1 hl rfl (fun ls2 g3 => ?_)
  exact zc_next hK hn hk ⟨I.1, ⟨⟨_, g3, zc_se_in g2 _ (.inr (.inr x))⟩, zc_se_ok I.2.1.2 (I.top)⟩, I.rest.2.2.1, I.2.2.2⟩
theorem zs_astore_n {n : Fin 4} {pc len a b : Nat} {d : Int} {ts : List (Int × Nat)} (C : zc_C j p s m args meth c D ad adV cA A) (he : zk_e j i (pc, .astore_n n, len, a, b, d, ts) = true) (hA : zx_act R (pc, .astore_n n, len, a, b, d, ts) i L S h Q K) (hK : ∀ i2 L2 S2 h2, K i2 L2 S2 h2 → zc_W j p l e s m args below meth c D ad adV cA A Qf i2 L2 S2 h2) : zc_W j p l e s m args below meth c D ad adV cA A Qf i L S h := by
  intro H locs ls I
  simp only [zk_e, Bool.and_eq_true, decide_eq_true_eq, zk_s, zk_d, zk_t, zk_ri, zk_rl] at he
  obtain ⟨hpc, ⟨⟨hd, hn⟩, ha⟩, hl⟩ := he
  obtain ⟨x, S2, rfl, hk⟩ := zx_pr_inv hA
  rw [hpc]
  obtain ⟨lst, g1, g2⟩ := I.2.1.1
  refine lv_astore_n C.1 C.2.1 hd ha g1 hl rfl (fun ls2 g3 => ?_)
  exact zc_next hK hn hk ⟨I.1, ⟨⟨_, g3, zc_se_in g2 a (.inr (.inr x))⟩, zc_se_ok I.2.1.2 (I.top)⟩, I.rest.2.2.1, I.2.2.2⟩
theorem zs_lstore {n : Nat} {pc len a b : Nat} {d : Int} {ts : List (Int × Nat)} (C : zc_C j p s m args meth c D ad adV cA A) (he : zk_e j i (pc, .lstore n, len, a, b, d, ts) = true) (hA : zx_act R (pc, .lstore n, len, a, b, d, ts) i L S h Q K) (hK : ∀ i2 L2 S2 h2, K i2 L2 S2 h2 → zc_W j p l e s m args below meth c D ad adV cA A Qf i2 L2 S2 h2) : zc_W j p l e s m args below meth c D ad adV cA A Qf i L S h := by
  intro H locs ls I
  simp only [zk_e, Bool.and_eq_true, decide_eq_true_eq, zk_s, zk_d, zk_t, zk_ri, zk_rl] at he
  obtain ⟨hpc, ⟨⟨hd, hn⟩, ha⟩, hl⟩ := he
  obtain ⟨x, S2, rfl, hk⟩ := zx_pl_inv (k := fun x S => K (i + 1) (zx_cl (zx_se L a (.inr (.inl x))) (a + 1)) S h) hA
  rw [hpc]
  subst ha
  obtain ⟨lst, g1, g2⟩ := I.2.1.1
  refine lv_lstore C.1 C.2.1 hd g1 hl rfl (fun ls2 g3 => ?_)
  exact zc_next hK hn hk ⟨I.1, ⟨⟨_, g3, zc_sl_in g2 _ x⟩, zc_cl_ok (zc_se_ok I.2.1.2 (I.top))⟩, I.rest.2.2.1, I.2.2.2⟩
theorem zs_iinc {n : Nat} {v : Int} {pc len a b : Nat} {d : Int} {ts : List (Int × Nat)} (C : zc_C j p s m args meth c D ad adV cA A) (he : zk_e j i (pc, .iinc n v, len, a, b, d, ts) = true) (hA : zx_act R (pc, .iinc n v, len, a, b, d, ts) i L S h Q K) (hK : ∀ i2 L2 S2 h2, K i2 L2 S2 h2 → zc_W j p l e s m args below meth c D ad adV cA A Qf i2 L2 S2 h2) : zc_W j p l e s m args below meth c D ad adV cA A Qf i L S h := by
  intro H locs ls I
  simp only [zk_e, Bool.and_eq_true, decide_eq_true_eq, zk_s, zk_d, zk_t, zk_ri, zk_rl] at he
  obtain ⟨hpc, ⟨⟨⟨hd, hn⟩, ha⟩, hv⟩, hl⟩ := he
  obtain ⟨x, hx, hr, hk⟩ := zx_li_inv hA
  rw [hpc]
  subst ha
  subst hv
  obtain ⟨lst, g1, g2⟩ := I.2.1.1
  obtain ⟨k, hk2⟩ := List.mem_iff_getElem?.mp (g2 _ _ hx)
  refine lv_iinc (v := Int32.ofInt (x + v)) C.1 C.2.1 hd g1 hk2 (Int32.ofInt_add x v).symm hl rfl (fun ls2 g3 => ?_)
  exact zc_next hK hn hk ⟨I.1, ⟨⟨_, g3, zc_se_in g2 _ (.inl (x + v))⟩, zc_se_ok I.2.1.2 (show zc_ok (.inl _) from hr)⟩, I.2.2.1, I.2.2.2⟩
theorem zs_iadd  {pc len a b : Nat} {d : Int} {ts : List (Int × Nat)} (C : zc_C j p s m args meth c D ad adV cA A) (he : zk_e j i (pc, .iadd, len, a, b, d, ts) = true) (hA : zx_act R (pc, .iadd, len, a, b, d, ts) i L S h Q K) (hK : ∀ i2 L2 S2 h2, K i2 L2 S2 h2 → zc_W j p l e s m args below meth c D ad adV cA A Qf i2 L2 S2 h2) : zc_W j p l e s m args below meth c D ad adV cA A Qf i L S h := by
  intro H locs ls I
  simp only [zk_e, Bool.and_eq_true, decide_eq_true_eq, zk_s, zk_d, zk_t, zk_ri, zk_rl] at he
  obtain ⟨hpc, hd, hn⟩ := he
  obtain ⟨x, y, S2, rfl, hr, hk⟩ := zx_p2_inv hA
  rw [hpc]
  have ee : Int32.ofInt (x + y) = Int32.ofInt x + Int32.ofInt y := Int32.ofInt_add x y
  refine lv_iadd C.1 C.2.1 hd ?_
  rw [← ee]
  exact zc_next hK hn hk (I.rest.rest.push (v := .inl _) hr)
theorem zs_isub  {pc len a b : Nat} {d : Int} {ts : List (Int × Nat)} (C : zc_C j p s m args meth c D ad adV cA A) (he : zk_e j i (pc, .isub, len, a, b, d, ts) = true) (hA : zx_act R (pc, .isub, len, a, b, d, ts) i L S h Q K) (hK : ∀ i2 L2 S2 h2, K i2 L2 S2 h2 → zc_W j p l e s m args below meth c D ad adV cA A Qf i2 L2 S2 h2) : zc_W j p l e s m args below meth c D ad adV cA A Qf i L S h := by
  intro H locs ls I
  simp only [zk_e, Bool.and_eq_true, decide_eq_true_eq, zk_s, zk_d, zk_t, zk_ri, zk_rl] at he
  obtain ⟨hpc, hd, hn⟩ := he
  obtain ⟨x, y, S2, rfl, hr, hk⟩ := zx_p2_inv hA
  rw [hpc]
  have ee : Int32.ofInt (x - y) = Int32.ofInt x - Int32.ofInt y := Int32.ofInt_sub x y
  refine lv_isub C.1 C.2.1 hd ?_
  rw [← ee]
  exact zc_next hK hn hk (I.rest.rest.push (v := .inl _) hr)
theorem zs_imul  {pc len a b : Nat} {d : Int} {ts : List (Int × Nat)} (C : zc_C j p s m args meth c D ad adV cA A) (he : zk_e j i (pc, .imul, len, a, b, d, ts) = true) (hA : zx_act R (pc, .imul, len, a, b, d, ts) i L S h Q K) (hK : ∀ i2 L2 S2 h2, K i2 L2 S2 h2 → zc_W j p l e s m args below meth c D ad adV cA A Qf i2 L2 S2 h2) : zc_W j p l e s m args below meth c D ad adV cA A Qf i L S h := by
  intro H locs ls I
  simp only [zk_e, Bool.and_eq_true, decide_eq_true_eq, zk_s, zk_d, zk_t, zk_ri, zk_rl] at he
  obtain ⟨hpc, hd, hn⟩ := he
  obtain ⟨x, y, S2, rfl, hr, hk⟩ := zx_p2_inv hA
  rw [hpc]
  have ee : Int32.ofInt (x * y) = Int32.ofInt x * Int32.ofInt y := Int32.ofInt_mul x y
  refine lv_imul C.1 C.2.1 hd ?_
  rw [← ee]
  exact zc_next hK hn hk (I.rest.rest.push (v := .inl _) hr)
theorem zs_fadd  {pc len a b : Nat} {d : Int} {ts : List (Int × Nat)} (C : zc_C j p s m args meth c D ad adV cA A) (he : zk_e j i (pc, .fadd, len, a, b, d, ts) = true) (hA : zx_act R (pc, .fadd, len, a, b, d, ts) i L S h Q K) (hK : ∀ i2 L2 S2 h2, K i2 L2 S2 h2 → zc_W j p l e s m args below meth c D ad adV cA A Qf i2 L2 S2 h2) : zc_W j p l e s m args below meth c D ad adV cA A Qf i L S h := by
  intro H locs ls I
  simp only [zk_e, Bool.and_eq_true, decide_eq_true_eq, zk_s, zk_d, zk_t, zk_ri, zk_rl] at he
  obtain ⟨hpc, hd, hn⟩ := he
  obtain ⟨x, y, S2, rfl, hk⟩ := zx_p2_inv hA
  rw [hpc]
  have ee : Int32.ofInt (zx_wr (x + y)) = Int32.ofInt x + Int32.ofInt y := zc_add x y
  refine lv_iadd C.1 C.2.1 hd ?_
  rw [← ee]
  exact zc_next hK hn hk (I.rest.rest.push (v := .inl _) (zc_ri _))
theorem zs_fsub  {pc len a b : Nat} {d : Int} {ts : List (Int × Nat)} (C : zc_C j p s m args meth c D ad adV cA A) (he : zk_e j i (pc, .fsub, len, a, b, d, ts) = true) (hA : zx_act R (pc, .fsub, len, a, b, d, ts) i L S h Q K) (hK : ∀ i2 L2 S2 h2, K i2 L2 S2 h2 → zc_W j p l e s m args below meth c D ad adV cA A Qf i2 L2 S2 h2) : zc_W j p l e s m args below meth c D ad adV cA A Qf i L S h := by
  intro H locs ls I
  simp only [zk_e, Bool.and_eq_true, decide_eq_true_eq, zk_s, zk_d, zk_t, zk_ri, zk_rl] at he
  obtain ⟨hpc, hd, hn⟩ := he
  obtain ⟨x, y, S2, rfl, hk⟩ := zx_p2_inv hA
  rw [hpc]
  have ee : Int32.ofInt (zx_wr (x - y)) = Int32.ofInt x - Int32.ofInt y := zc_sub x y
  refine lv_isub C.1 C.2.1 hd ?_
  rw [← ee]
  exact zc_next hK hn hk (I.rest.rest.push (v := .inl _) (zc_ri _))
theorem zs_fmul  {pc len a b : Nat} {d : Int} {ts : List (Int × Nat)} (C : zc_C j p s m args meth c D ad adV cA A) (he : zk_e j i (pc, .fmul, len, a, b, d, ts) = true) (hA : zx_act R (pc, .fmul, len, a, b, d, ts) i L S h Q K) (hK : ∀ i2 L2 S2 h2, K i2 L2 S2 h2 → zc_W j p l e s m args below meth c D ad adV cA A Qf i2 L2 S2 h2) : zc_W j p l e s m args below meth c D ad adV cA A Qf i L S h := by
  intro H locs ls I
  simp only [zk_e, Bool.and_eq_true, decide_eq_true_eq, zk_s, zk_d, zk_t, zk_ri, zk_rl] at he
  obtain ⟨hpc, hd, hn⟩ := he
  obtain ⟨x, y, S2, rfl, hk⟩ := zx_p2_inv hA
  rw [hpc]
  have ee : Int32.ofInt (zx_wr (x * y)) = Int32.ofInt x * Int32.ofInt y := zc_mul x y
  refine lv_imul C.1 C.2.1 hd ?_
  rw [← ee]
  exact zc_next hK hn hk (I.rest.rest.push (v := .inl _) (zc_ri _))
theorem zs_iand  {pc len a b : Nat} {d : Int} {ts : List (Int × Nat)} (C : zc_C j p s m args meth c D ad adV cA A) (he : zk_e j i (pc, .iand, len, a, b, d, ts) = true) (hA : zx_act R (pc, .iand, len, a, b, d, ts) i L S h Q K) (hK : ∀ i2 L2 S2 h2, K i2 L2 S2 h2 → zc_W j p l e s m args below meth c D ad adV cA A Qf i2 L2 S2 h2) : zc_W j p l e s m args below meth c D ad adV cA A Qf i L S h := by
  intro H locs ls I
  simp only [zk_e, Bool.and_eq_true, decide_eq_true_eq, zk_s, zk_d, zk_t, zk_ri, zk_rl] at he
  obtain ⟨hpc, hd, hn⟩ := he
  obtain ⟨x, y, S2, rfl, hk⟩ := zx_p2_inv hA
  rw [hpc]
  have ee : Int32.ofInt (zx_and x y) = Int32.ofInt x &&& Int32.ofInt y := zc_oi _
  refine lv_iand C.1 C.2.1 hd ?_
  rw [← ee]
  exact zc_next hK hn hk (I.rest.rest.push (v := .inl _) (zc_ri _))
theorem zs_ior  {pc len a b : Nat} {d : Int} {ts : List (Int × Nat)} (C : zc_C j p s m args meth c D ad adV cA A) (he : zk_e j i (pc, .ior, len, a, b, d, ts) = true) (hA : zx_act R (pc, .ior, len, a, b, d, ts) i L S h Q K) (hK : ∀ i2 L2 S2 h2, K i2 L2 S2 h2 → zc_W j p l e s m args below meth c D ad adV cA A Qf i2 L2 S2 h2) : zc_W j p l e s m args below meth c D ad adV cA A Qf i L S h := by
  intro H locs ls I
  simp only [zk_e, Bool.and_eq_true, decide_eq_true_eq, zk_s, zk_d, zk_t, zk_ri, zk_rl] at he
  obtain ⟨hpc, hd, hn⟩ := he
  obtain ⟨x, y, S2, rfl, hk⟩ := zx_p2_inv hA
  rw [hpc]
  have ee : Int32.ofInt (zx_or x y) = Int32.ofInt x ||| Int32.ofInt y := zc_oi _
  refine lv_ior C.1 C.2.1 hd ?_
  rw [← ee]
  exact zc_next hK hn hk (I.rest.rest.push (v := .inl _) (zc_ri _))
theorem zs_ixor  {pc len a b : Nat} {d : Int} {ts : List (Int × Nat)} (C : zc_C j p s m args meth c D ad adV cA A) (he : zk_e j i (pc, .ixor, len, a, b, d, ts) = true) (hA : zx_act R (pc, .ixor, len, a, b, d, ts) i L S h Q K) (hK : ∀ i2 L2 S2 h2, K i2 L2 S2 h2 → zc_W j p l e s m args below meth c D ad adV cA A Qf i2 L2 S2 h2) : zc_W j p l e s m args below meth c D ad adV cA A Qf i L S h := by
  intro H locs ls I
  simp only [zk_e, Bool.and_eq_true, decide_eq_true_eq, zk_s, zk_d, zk_t, zk_ri, zk_rl] at he
  obtain ⟨hpc, hd, hn⟩ := he
  obtain ⟨x, y, S2, rfl, hk⟩ := zx_p2_inv hA
  rw [hpc]
  have ee : Int32.ofInt (zx_xor x y) = Int32.ofInt x ^^^ Int32.ofInt y := zc_oi _
  refine lv_ixor C.1 C.2.1 hd ?_
  rw [← ee]
  exact zc_next hK hn hk (I.rest.rest.push (v := .inl _) (zc_ri _))
theorem zs_ishl  {pc len a b : Nat} {d : Int} {ts : List (Int × Nat)} (C : zc_C j p s m args meth c D ad adV cA A) (he : zk_e j i (pc, .ishl, len, a, b, d, ts) = true) (hA : zx_act R (pc, .ishl, len, a, b, d, ts) i L S h Q K) (hK : ∀ i2 L2 S2 h2, K i2 L2 S2 h2 → zc_W j p l e s m args below meth c D ad adV cA A Qf i2 L2 S2 h2) : zc_W j p l e s m args below meth c D ad adV cA A Qf i L S h := by
  intro H locs ls I
  simp only [zk_e, Bool.and_eq_true, decide_eq_true_eq, zk_s, zk_d, zk_t, zk_ri, zk_rl] at he
  obtain ⟨hpc, hd, hn⟩ := he
  obtain ⟨x, y, S2, rfl, hk⟩ := zx_p2_inv hA
  rw [hpc]
  have ee : Int32.ofInt (zx_shl x y) = Int32.ofInt x <<< (Int32.ofInt y &&& 31) := zc_oi _
  refine lv_ishl C.1 C.2.1 hd ?_
  rw [← ee]
  exact zc_next hK hn hk (I.rest.rest.push (v := .inl _) (zc_ri _))
theorem zs_ishr  {pc len a b : Nat} {d : Int} {ts : List (Int × Nat)} (C : zc_C j p s m args meth c D ad adV cA A) (he : zk_e j i (pc, .ishr, len, a, b, d, ts) = true) (hA : zx_act R (pc, .ishr, len, a, b, d, ts) i L S h Q K) (hK : ∀ i2 L2 S2 h2, K i2 L2 S2 h2 → zc_W j p l e s m args below meth c D ad adV cA A Qf i2 L2 S2 h2) : zc_W j p l e s m args below meth c D ad adV cA A Qf i L S h := by
  intro H locs ls I
  simp only [zk_e, Bool.and_eq_true, decide_eq_true_eq, zk_s, zk_d, zk_t, zk_ri, zk_rl] at he
  obtain ⟨hpc, hd, hn⟩ := he
  obtain ⟨x, y, S2, rfl, hk⟩ := zx_p2_inv hA
  rw [hpc]
  have ee : Int32.ofInt (zx_shr x y) = Int32.ofInt x >>> (Int32.ofInt y &&& 31) := zc_oi _
  refine lv_ishr C.1 C.2.1 hd ?_
  rw [← ee]
  exact zc_next hK hn hk (I.rest.rest.push (v := .inl _) (zc_ri _))
theorem zs_iushr  {pc len a b : Nat} {d : Int} {ts : List (Int × Nat)} (C : zc_C j p s m args meth c D ad adV cA A) (he : zk_e j i (pc, .iushr, len, a, b, d, ts) = true) (hA : zx_act R (pc, .iushr, len, a, b, d, ts) i L S h Q K) (hK : ∀ i2 L2 S2 h2, K i2 L2 S2 h2 → zc_W j p l e s m args below meth c D ad adV cA A Qf i2 L2 S2 h2) : zc_W j p l e s m args below meth c D ad adV cA A Qf i L S h := by
  intro H locs ls I
  simp only [zk_e, Bool.and_eq_true, decide_eq_true_eq, zk_s, zk_d, zk_t, zk_ri, zk_rl] at he
  obtain ⟨hpc, hd, hn⟩ := he
  obtain ⟨x, y, S2, rfl, hk⟩ := zx_p2_inv hA
  rw [hpc]
  refine lv_iushr (v := Int32.ofInt (zx_ushr x y)) C.1 C.2.1 hd (zc_oi _).symm ?_
  exact zc_next hK hn hk (I.rest.rest.push (v := .inl _) (zc_ri _))
theorem zs_idiv  {pc len a b : Nat} {d : Int} {ts : List (Int × Nat)} (C : zc_C j p s m args meth c D ad adV cA A) (he : zk_e j i (pc, .idiv, len, a, b, d, ts) = true) (hA : zx_act R (pc, .idiv, len, a, b, d, ts) i L S h Q K) (hK : ∀ i2 L2 S2 h2, K i2 L2 S2 h2 → zc_W j p l e s m args below meth c D ad adV cA A Qf i2 L2 S2 h2) : zc_W j p l e s m args below meth c D ad adV cA A Qf i L S h := by
  intro H locs ls I
  simp only [zk_e, Bool.and_eq_true, decide_eq_true_eq, zk_s, zk_d, zk_t, zk_ri, zk_rl] at he
  obtain ⟨hpc, hd, hn⟩ := he
  obtain ⟨x, y, S2, rfl, ⟨h0, h1⟩, hk⟩ := zx_p2_inv hA
  rw [hpc]
  have hy : zc_i y := I.top
  have hx : zc_i x := I.rest.top
  refine lv_idiv C.1 C.2.1 hd (fun z => by have := (zc_eq0 hy).mp z; omega) ?_
  rw [(zc_div hx hy h0 h1).1]
  exact zc_next hK hn hk (I.rest.rest.push (v := .inl _) (zc_div hx hy h0 h1).2)
theorem zs_irem  {pc len a b : Nat} {d : Int} {ts : List (Int × Nat)} (C : zc_C j p s m args meth c D ad adV cA A) (he : zk_e j i (pc, .irem, len, a, b, d, ts) = true) (hA : zx_act R (pc, .irem, len, a, b, d, ts) i L S h Q K) (hK : ∀ i2 L2 S2 h2, K i2 L2 S2 h2 → zc_W j p l e s m args below meth c D ad adV cA A Qf i2 L2 S2 h2) : zc_W j p l e s m args below meth c D ad adV cA A Qf i L S h := by
  intro H locs ls I
  simp only [zk_e, Bool.and_eq_true, decide_eq_true_eq, zk_s, zk_d, zk_t, zk_ri, zk_rl] at he
  obtain ⟨hpc, hd, hn⟩ := he
  obtain ⟨x, y, S2, rfl, ⟨h0, h1⟩, hk⟩ := zx_p2_inv hA
  rw [hpc]
  have hy : zc_i y := I.top
  have hx : zc_i x := I.rest.top
  refine lv_irem C.1 C.2.1 hd (fun z => by have := (zc_eq0 hy).mp z; omega) ?_
  rw [(zc_rem hx hy h0 h1).1]
  exact zc_next hK hn hk (I.rest.rest.push (v := .inl _) (zc_rem hx hy h0 h1).2)
theorem zs_i2b  {pc len a b : Nat} {d : Int} {ts : List (Int × Nat)} (C : zc_C j p s m args meth c D ad adV cA A) (he : zk_e j i (pc, .i2b, len, a, b, d, ts) = true) (hA : zx_act R (pc, .i2b, len, a, b, d, ts) i L S h Q K) (hK : ∀ i2 L2 S2 h2, K i2 L2 S2 h2 → zc_W j p l e s m args below meth c D ad adV cA A Qf i2 L2 S2 h2) : zc_W j p l e s m args below meth c D ad adV cA A Qf i L S h := by
  intro H locs ls I
  simp only [zk_e, Bool.and_eq_true, decide_eq_true_eq, zk_s, zk_d, zk_t, zk_ri, zk_rl] at he
  obtain ⟨hpc, hd, hn⟩ := he
  obtain ⟨x, S2, rfl, h0, hk⟩ := zx_p1_inv hA
  rw [hpc]
  refine lv_i2b (v := Int32.ofInt x) C.1 C.2.1 hd (zc_byte h0) ?_
  exact zc_next hK hn hk I
theorem zs_d2i  {pc len a b : Nat} {d : Int} {ts : List (Int × Nat)} (C : zc_C j p s m args meth c D ad adV cA A) (he : zk_e j i (pc, .d2i, len, a, b, d, ts) = true) (hA : zx_act R (pc, .d2i, len, a, b, d, ts) i L S h Q K) (hK : ∀ i2 L2 S2 h2, K i2 L2 S2 h2 → zc_W j p l e s m args below meth c D ad adV cA A Qf i2 L2 S2 h2) : zc_W j p l e s m args below meth c D ad adV cA A Qf i L S h := by
  intro H locs ls I
  simp only [zk_e, Bool.and_eq_true, decide_eq_true_eq, zk_s, zk_d, zk_t, zk_ri, zk_rl] at he
  obtain ⟨hpc, hd, hn⟩ := he
  obtain ⟨x, S2, rfl, hk⟩ := zx_p1_inv hA
  rw [hpc]
  refine lv_i2b (v := Int32.ofInt (zx_b x)) C.1 C.2.1 hd (zc_oi _).symm ?_
  exact zc_next hK hn hk (I.rest.push (v := .inl _) (zc_ri _))
theorem zs_i2s  {pc len a b : Nat} {d : Int} {ts : List (Int × Nat)} (C : zc_C j p s m args meth c D ad adV cA A) (he : zk_e j i (pc, .i2s, len, a, b, d, ts) = true) (hA : zx_act R (pc, .i2s, len, a, b, d, ts) i L S h Q K) (hK : ∀ i2 L2 S2 h2, K i2 L2 S2 h2 → zc_W j p l e s m args below meth c D ad adV cA A Qf i2 L2 S2 h2) : zc_W j p l e s m args below meth c D ad adV cA A Qf i L S h := by
  intro H locs ls I
  simp only [zk_e, Bool.and_eq_true, decide_eq_true_eq, zk_s, zk_d, zk_t, zk_ri, zk_rl] at he
  obtain ⟨hpc, hd, hn⟩ := he
  obtain ⟨x, S2, rfl, hk⟩ := zx_p1_inv hA
  rw [hpc]
  refine lv_i2s (v := Int32.ofInt (zx_s x)) C.1 C.2.1 hd (zc_oi _).symm ?_
  exact zc_next hK hn hk (I.rest.push (v := .inl _) (zc_ri _))
theorem zs_i2l  {pc len a b : Nat} {d : Int} {ts : List (Int × Nat)} (C : zc_C j p s m args meth c D ad adV cA A) (he : zk_e j i (pc, .i2l, len, a, b, d, ts) = true) (hA : zx_act R (pc, .i2l, len, a, b, d, ts) i L S h Q K) (hK : ∀ i2 L2 S2 h2, K i2 L2 S2 h2 → zc_W j p l e s m args below meth c D ad adV cA A Qf i2 L2 S2 h2) : zc_W j p l e s m args below meth c D ad adV cA A Qf i L S h := by
  intro H locs ls I
  simp only [zk_e, Bool.and_eq_true, decide_eq_true_eq, zk_s, zk_d, zk_t, zk_ri, zk_rl] at he
  obtain ⟨hpc, hd, hn⟩ := he
  obtain ⟨x, S2, rfl, hk⟩ := zx_p1_inv hA
  rw [hpc]
  refine lv_i2l (v := Int64.ofInt x) C.1 C.2.1 hd (zc_i2l (I.top)) ?_
  exact zc_next hK hn hk (I.rest.push (v := .inr (.inl x)) (zc_il (I.top)))
theorem zs_l2i  {pc len a b : Nat} {d : Int} {ts : List (Int × Nat)} (C : zc_C j p s m args meth c D ad adV cA A) (he : zk_e j i (pc, .l2i, len, a, b, d, ts) = true) (hA : zx_act R (pc, .l2i, len, a, b, d, ts) i L S h Q K) (hK : ∀ i2 L2 S2 h2, K i2 L2 S2 h2 → zc_W j p l e s m args below meth c D ad adV cA A Qf i2 L2 S2 h2) : zc_W j p l e s m args below meth c D ad adV cA A Qf i L S h := by
  intro H locs ls I
  simp only [zk_e, Bool.and_eq_true, decide_eq_true_eq, zk_s, zk_d, zk_t, zk_ri, zk_rl] at he
  obtain ⟨hpc, hd, hn⟩ := he
  obtain ⟨x, S2, rfl, hk⟩ := zx_pl_inv (k := fun x S => K (i + 1) L (.inl (zx_wr x) :: S) h) hA
  rw [hpc]
  refine lv_l2i (v := Int32.ofInt (zx_wr x)) C.1 C.2.1 hd (zc_l2i (I.top)) ?_
  exact zc_next hK hn hk (I.rest.push (v := .inl _) (zc_ri _))
theorem zs_ladd  {pc len a b : Nat} {d : Int} {ts : List (Int × Nat)} (C : zc_C j p s m args meth c D ad adV cA A) (he : zk_e j i (pc, .ladd, len, a, b, d, ts) = true) (hA : zx_act R (pc, .ladd, len, a, b, d, ts) i L S h Q K) (hK : ∀ i2 L2 S2 h2, K i2 L2 S2 h2 → zc_W j p l e s m args below meth c D ad adV cA A Qf i2 L2 S2 h2) : zc_W j p l e s m args below meth c D ad adV cA A Qf i L S h := by
  intro H locs ls I
  simp only [zk_e, Bool.and_eq_true, decide_eq_true_eq, zk_s, zk_d, zk_t, zk_ri, zk_rl] at he
  obtain ⟨hpc, hd, hn⟩ := he
  obtain ⟨x, y, S2, rfl, hk⟩ := zx_pl2_inv (k := fun x y S => K (i + 1) L (.inr (.inl (zx_wl (x + y))) :: S) h) hA
  rw [hpc]
  refine lv_ladd C.1 C.2.1 hd ?_
  rw [← zc_addl]
  exact zc_next hK hn hk (I.rest.rest.push (v := .inr (.inl _)) (zc_rl _))
theorem zs_lcmp  {pc len a b : Nat} {d : Int} {ts : List (Int × Nat)} (C : zc_C j p s m args meth c D ad adV cA A) (he : zk_e j i (pc, .lcmp, len, a, b, d, ts) = true) (hA : zx_act R (pc, .lcmp, len, a, b, d, ts) i L S h Q K) (hK : ∀ i2 L2 S2 h2, K i2 L2 S2 h2 → zc_W j p l e s m args below meth c D ad adV cA A Qf i2 L2 S2 h2) : zc_W j p l e s m args below meth c D ad adV cA A Qf i L S h := by
  intro H locs ls I
  simp only [zk_e, Bool.and_eq_true, decide_eq_true_eq, zk_s, zk_d, zk_t, zk_ri, zk_rl] at he
  obtain ⟨hpc, hd, hn⟩ := he
  obtain ⟨x, y, S2, rfl, hk⟩ := zx_pl2_inv (k := fun x y S => K (i + 1) L (.inl (zx_lcmp x y) :: S) h) hA
  rw [hpc]
  refine W.lcmp C.1 C.2.1 hd ?_
  rw [zc_lcmp (I.rest.top) (I.top)]
  exact zc_next hK hn hk (I.rest.rest.push (v := .inl _) (zc_lcmp_i x y))
theorem zs_dup  {pc len a b : Nat} {d : Int} {ts : List (Int × Nat)} (C : zc_C j p s m args meth c D ad adV cA A) (he : zk_e j i (pc, .dup, len, a, b, d, ts) = true) (hA : zx_act R (pc, .dup, len, a, b, d, ts) i L S h Q K) (hK : ∀ i2 L2 S2 h2, K i2 L2 S2 h2 → zc_W j p l e s m args below meth c D ad adV cA A Qf i2 L2 S2 h2) : zc_W j p l e s m args below meth c D ad adV cA A Qf i L S h := by
  intro H locs ls I
  simp only [zk_e, Bool.and_eq_true, decide_eq_true_eq, zk_s, zk_d, zk_t, zk_ri, zk_rl] at he
  obtain ⟨hpc, hd, hn⟩ := he
  rcases S with _ | ⟨(x | (x | x)), S2⟩
  · exact False.elim hA
  · rw [hpc]
    refine lv_dup C.1 C.2.1 hd rfl ?_
    exact zc_next hK hn hA (I.push (v := .inl x) I.top)
  · exact False.elim hA
  · rw [hpc]
    refine lv_dup C.1 C.2.1 hd rfl ?_
    exact zc_next hK hn hA (I.push (v := .inr (.inr x)) I.top)
theorem zs_dup2  {pc len a b : Nat} {d : Int} {ts : List (Int × Nat)} (C : zc_C j p s m args meth c D ad adV cA A) (he : zk_e j i (pc, .dup2, len, a, b, d, ts) = true) (hA : zx_act R (pc, .dup2, len, a, b, d, ts) i L S h Q K) (hK : ∀ i2 L2 S2 h2, K i2 L2 S2 h2 → zc_W j p l e s m args below meth c D ad adV cA A Qf i2 L2 S2 h2) : zc_W j p l e s m args below meth c D ad adV cA A Qf i L S h := by
  intro H locs ls I
  simp only [zk_e, Bool.and_eq_true, decide_eq_true_eq, zk_s, zk_d, zk_t, zk_ri, zk_rl] at he
  obtain ⟨hpc, hd, hn⟩ := he
  obtain ⟨r, x, S2, rfl, hk⟩ := zx_pi_inv hA
  rw [hpc]
  refine lv_dup2_11 C.1 C.2.1 hd rfl rfl ?_
  exact zc_next hK hn hk ((I.push (v := .inr (.inr r)) trivial).push (v := .inl x) I.top)
theorem zs_pop  {pc len a b : Nat} {d : Int} {ts : List (Int × Nat)} (C : zc_C j p s m args meth c D ad adV cA A) (he : zk_e j i (pc, .pop, len, a, b, d, ts) = true) (hA : zx_act R (pc, .pop, len, a, b, d, ts) i L S h Q K) (hK : ∀ i2 L2 S2 h2, K i2 L2 S2 h2 → zc_W j p l e s m args below meth c D ad adV cA A Qf i2 L2 S2 h2) : zc_W j p l e s m args below meth c D ad adV cA A Qf i L S h := by
  intro H locs ls I
  simp only [zk_e, Bool.and_eq_true, decide_eq_true_eq, zk_s, zk_d, zk_t, zk_ri, zk_rl] at he
  obtain ⟨hpc, hd, hn⟩ := he
  obtain ⟨x, S2, rfl, hk⟩ := zx_p1_inv hA
  rw [hpc]
  refine lv_pop C.1 C.2.1 hd rfl ?_
  exact zc_next hK hn hk I.rest
theorem zs_goto {n : Int} {pc len a b : Nat} {d : Int} {ts : List (Int × Nat)} (C : zc_C j p s m args meth c D ad adV cA A) (he : zk_e j i (pc, .goto n, len, a, b, d, ts) = true) (hA : zx_act R (pc, .goto n, len, a, b, d, ts) i L S h Q K) (hK : ∀ i2 L2 S2 h2, K i2 L2 S2 h2 → zc_W j p l e s m args below meth c D ad adV cA A Qf i2 L2 S2 h2) : zc_W j p l e s m args below meth c D ad adV cA A Qf i L S h := by
  intro H locs ls I
  simp only [zk_e, Bool.and_eq_true, decide_eq_true_eq, zk_s, zk_d, zk_t, zk_ri, zk_rl] at he
  obtain ⟨hpc, hd, ht⟩ := he
  rw [hpc]
  refine lv_goto C.1 C.2.1 hd ht ?_
  exact zc_next hK rfl hA I
theorem zs_ifCond {q : ClassFile.Cond} {n : Int} {pc len a b : Nat} {d : Int} {ts : List (Int × Nat)} (C : zc_C j p s m args meth c D ad adV cA A) (he : zk_e j i (pc, .ifCond q n, len, a, b, d, ts) = true) (hA : zx_act R (pc, .ifCond q n, len, a, b, d, ts) i L S h Q K) (hK : ∀ i2 L2 S2 h2, K i2 L2 S2 h2 → zc_W j p l e s m args below meth c D ad adV cA A Qf i2 L2 S2 h2) : zc_W j p l e s m args below meth c D ad adV cA A Qf i L S h := by
  intro H locs ls I
  simp only [zk_e, Bool.and_eq_true, decide_eq_true_eq, zk_s, zk_d, zk_t, zk_ri, zk_rl] at he
  obtain ⟨hpc, ⟨hd, hn⟩, ht⟩ := he
  obtain ⟨x, S2, rfl, hk⟩ := zx_p1_inv hA
  rw [hpc]
  have hx : zc_i x := I.top
  have I2 : zc_I j s D ad cA A L S2 h H locs ls := I.rest
  cases q with
  | eq =>
    refine lv_if_eq C.1 C.2.1 hd ht (fun z => ?_) (fun z => ?_)
    · exact zc_next hK rfl (hk.1 ((zc_eq0 hx).mp z)) I2
    · exact zc_next hK hn (hk.2 (fun y => z ((zc_eq0 hx).mpr y))) I2
  | ne =>
    refine lv_if_ne C.1 C.2.1 hd ht (fun z => ?_) (fun z => ?_)
    · exact zc_next hK rfl (hk.2 (fun y => z ((zc_eq0 hx).mpr y))) I2
    · exact zc_next hK hn (hk.1 ((zc_eq0 hx).mp z)) I2
  | lt =>
    refine lv_if_lt C.1 C.2.1 hd ht (fun z => ?_) (fun z => ?_)
    · exact zc_next hK rfl (hk.1 ((zc_lt0 hx).mp z)) I2
    · exact zc_next hK hn (hk.2 (fun y => z ((zc_lt0 hx).mpr y))) I2
  | ge =>
    refine lv_if_ge C.1 C.2.1 hd ht (fun z => ?_) (fun z => ?_)
    · exact zc_next hK rfl (hk.2 (Int.not_lt.mpr ((zc_ge0 hx).mp z))) I2
    · exact zc_next hK hn (hk.1 (Int.not_le.mp (fun y => z ((zc_ge0 hx).mpr y)))) I2
  | gt =>
    refine lv_if_gt C.1 C.2.1 hd ht (fun z => ?_) (fun z => ?_)
    · exact zc_next hK rfl (hk.1 ((zc_gt0 hx).mp z)) I2
    · exact zc_next hK hn (hk.2 (fun y => z ((zc_gt0 hx).mpr y))) I2
  | le =>
    refine lv_if_le C.1 C.2.1 hd ht (fun z => ?_) (fun z => ?_)
    · exact zc_next hK rfl (hk.2 (Int.not_lt.mpr ((zc_le0 hx).mp z))) I2
    · exact zc_next hK hn (hk.1 (Int.not_le.mp (fun y => z ((zc_le0 hx).mpr y)))) I2

theorem zs_if_icmp {q : ClassFile.Cond} {n : Int} {pc len a b : Nat} {d : Int} {ts : List (Int × Nat)} (C : zc_C j p s m args meth c D ad adV cA A) (he : zk_e j i (pc, .if_icmp q n, len, a, b, d, ts) = true) (hA : zx_act R (pc, .if_icmp q n, len, a, b, d, ts) i L S h Q K) (hK : ∀ i2 L2 S2 h2, K i2 L2 S2 h2 → zc_W j p l e s m args below meth c D ad adV cA A Qf i2 L2 S2 h2) : zc_W j p l e s m args below meth c D ad adV cA A Qf i L S h := by
  intro H locs ls I
  simp only [zk_e, Bool.and_eq_true, decide_eq_true_eq, zk_s, zk_d, zk_t, zk_ri, zk_rl] at he
  obtain ⟨hpc, ⟨hd, hn⟩, ht⟩ := he
  obtain ⟨x, y, S2, rfl, hk⟩ := zx_p2_inv hA
  rw [hpc]
  have hy : zc_i y := I.top
  have hx : zc_i x := I.rest.top
  have I2 : zc_I j s D ad cA A L S2 h H locs ls := I.rest.rest
  cases q with
  | eq =>
    refine lv_icmp_eq C.1 C.2.1 hd ht (fun z => ?_) (fun z => ?_)
    · exact zc_next hK rfl (hk.1 ((zc_eq hx hy).mp z)) I2
    · exact zc_next hK hn (hk.2 (fun y => z ((zc_eq hx hy).mpr y))) I2
  | ne =>
    refine lv_icmp_ne C.1 C.2.1 hd ht (fun z => ?_) (fun z => ?_)
    · exact zc_next hK rfl (hk.2 (fun y => z ((zc_eq hx hy).mpr y))) I2
    · exact zc_next hK hn (hk.1 ((zc_eq hx hy).mp z)) I2
  | lt =>
    refine lv_icmp_lt C.1 C.2.1 hd ht (fun z => ?_) (fun z => ?_)
    · exact zc_next hK rfl (hk.1 ((zc_lt hx hy).mp z)) I2
    · exact zc_next hK hn (hk.2 (fun y => z ((zc_lt hx hy).mpr y))) I2
  | ge =>
    refine lv_icmp_ge C.1 C.2.1 hd ht (fun z => ?_) (fun z => ?_)
    · exact zc_next hK rfl (hk.2 (Int.not_lt.mpr ((zc_le hy hx).mp z))) I2
    · exact zc_next hK hn (hk.1 (Int.not_le.mp (fun y => z ((zc_le hy hx).mpr y)))) I2
  | gt =>
    refine lv_icmp_gt C.1 C.2.1 hd ht (fun z => ?_) (fun z => ?_)
    · exact zc_next hK rfl (hk.1 ((zc_lt hy hx).mp z)) I2
    · exact zc_next hK hn (hk.2 (fun y => z ((zc_lt hy hx).mpr y))) I2
  | le =>
    refine lv_icmp_le C.1 C.2.1 hd ht (fun z => ?_) (fun z => ?_)
    · exact zc_next hK rfl (hk.2 (Int.not_lt.mpr ((zc_le hx hy).mp z))) I2
    · exact zc_next hK hn (hk.1 (Int.not_le.mp (fun y => z ((zc_le hx hy).mpr y)))) I2

end ZS
