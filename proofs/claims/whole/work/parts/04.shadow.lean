def zx_sh (r : Nat) : zS := zx_shT.getD r (9, 0, 0, [])
def zx_tg (r : Nat) : Nat := (zx_sh r).1
def zx_ci (r : Nat) : Nat := (zx_sh r).2.1
def zx_n (r : Nat) : Nat := (zx_sh r).2.2.1
def zx_ln (r : Nat) : Int := ((zx_sh r).2.2.1 : Int)
def zx_rf (r : Nat) : List (Option Nat) := (zx_sh r).2.2.2
def zx_cd (j : Nat) : List (Bool × zE) := zx_cds.getD j []
abbrev zT : Type := MethodName × ByteArray × Nat × Option FieldType × Nat × Nat × Nat × Nat × Nat × Nat × Nat
def zx_mt (j : Nat) : zT := zx_mts.getD j (⟨"", "", ""⟩, .empty, 0, none, 0, 0, 0, 0, 0, 0, 0)
def zx_y (j : Nat) : MethodName := (zx_mt j).1
def zx_by (j : Nat) : ByteArray := (zx_mt j).2.1
def zx_ml (j : Nat) : Nat := (zx_mt j).2.2.1
def zx_rt (j : Nat) : Option FieldType := (zx_mt j).2.2.2.1
def zx_rm (j : Nat) : Room := { frames := (zx_mt j).2.2.2.2.1, cells := 0, slots := 0, locals := (zx_mt j).2.2.2.2.2.1 }
def zx_pc (j i : Nat) : Nat := match zx_at (zx_cd j) i with
  | some e => e.2.1
  | none => 0
/-- an object of class ci with a field b -/
def zx_ob (r a b : Nat) : Prop := zx_tg r = 0 ∧ zx_ci r = a ∧ b < zx_n r
/-- the same, by program -/
def zx_obB (r a b : Nat) : Bool := Nat.beq (zx_tg r) 0 && Nat.beq (zx_ci r) a && Nat.ble (b + 1) (zx_n r)
def zx_noR (o : Option Nat) : Bool := match o with
  | none => true
  | some _ => false
def zx_isA (r : Nat) : Bool := Nat.beq (zx_tg r) 1 || Nat.beq (zx_tg r) 2 || Nat.beq (zx_tg r) 3
def zx_isR (r : Nat) : Bool := Nat.beq (zx_tg r) 4 || Nat.beq (zx_tg r) 5
/-- a row of tag t, and a place in it -/
def zx_ix (r t : Nat) (k : Int) : Prop := zx_tg r = t ∧ 0 ≤ k ∧ k < zx_ln r
def zx_arr (r : Nat) : Prop := zx_tg r = 1 ∨ zx_tg r = 2 ∨ zx_tg r = 3
/-- what an instruction asks, and where it leads; R: a call's answer -/
def zx_act (R : Nat → List zV → zM → zQ → Prop) (e : zE) (i : Nat) (L : zL) (S : List zV) (h : zM) (Q : zQ) (K : Nat → zL → List zV → zM → Prop) : Prop :=
  match e with
  | (_, ins, _, a, b, d, ts) =>
  match ins with
  | .iload _ => zx_li (zx_lk L a) (fun x => K (i + 1) L (.inl x :: S) h)
  | .iload_n _ => zx_li (zx_lk L a) (fun x => K (i + 1) L (.inl x :: S) h)
  | .lload _ => zx_ll (zx_lk L a) (fun x => K (i + 1) L (.inr (.inl x) :: S) h)
  | .lload_n _ => zx_ll (zx_lk L a) (fun x => K (i + 1) L (.inr (.inl x) :: S) h)
  | .aload _ => zx_lr (zx_lk L a) (fun x => K (i + 1) L (.inr (.inr x) :: S) h)
  | .aload_n _ => zx_lr (zx_lk L a) (fun x => K (i + 1) L (.inr (.inr x) :: S) h)
  | .iconst _ => K (i + 1) L (.inl d :: S) h
  | .bipush _ => K (i + 1) L (.inl d :: S) h
  | .sipush _ => K (i + 1) L (.inl d :: S) h
  | .lconst _ => K (i + 1) L (.inr (.inl d) :: S) h
  | .ldc2_w _ => K (i + 1) L (.inr (.inl d) :: S) h
  | .ldc _ => match b with
    | 0 => K (i + 1) L (.inl d :: S) h
    | _ + 1 => K (i + 1) L (.inr (.inr a) :: S) h
  | .ldc_w _ => match b with
    | 0 => K (i + 1) L (.inl d :: S) h
    | _ + 1 => K (i + 1) L (.inr (.inr a) :: S) h
  | .istore _ => zx_p1 S (fun x S => K (i + 1) (zx_se L a (.inl x)) S h)
  | .istore_n _ => zx_p1 S (fun x S => K (i + 1) (zx_se L a (.inl x)) S h)
  | .astore _ => zx_pr S (fun x S => K (i + 1) (zx_se L a (.inr (.inr x))) S h)
  | .astore_n _ => zx_pr S (fun x S => K (i + 1) (zx_se L a (.inr (.inr x))) S h)
  | .lstore _ => match S with
    | .inr (.inl x) :: S => K (i + 1) (zx_cl (zx_se L a (.inr (.inl x))) (a + 1)) S h
    | _ => False
  | .iinc _ _ => zx_li (zx_lk L a) (fun x => (-2147483648 ≤ x + d ∧ x + d < 2147483648) ∧ K (i + 1) (zx_se L a (.inl (x + d))) S h)
  | .iadd => zx_p2 S (fun x y S => (-2147483648 ≤ x + y ∧ x + y < 2147483648) ∧ K (i + 1) L (.inl (x + y) :: S) h)
  | .fadd => zx_p2 S (fun x y S => K (i + 1) L (.inl (zx_wr (x + y)) :: S) h)
  | .isub => zx_p2 S (fun x y S => (-2147483648 ≤ x - y ∧ x - y < 2147483648) ∧ K (i + 1) L (.inl (x - y) :: S) h)
  | .fsub => zx_p2 S (fun x y S => K (i + 1) L (.inl (zx_wr (x - y)) :: S) h)
  | .imul => zx_p2 S (fun x y S => (-2147483648 ≤ x * y ∧ x * y < 2147483648) ∧ K (i + 1) L (.inl (x * y) :: S) h)
  | .fmul => zx_p2 S (fun x y S => K (i + 1) L (.inl (zx_wr (x * y)) :: S) h)
  | .iand => zx_p2 S (fun x y S => K (i + 1) L (.inl (zx_and x y) :: S) h)
  | .ior => zx_p2 S (fun x y S => K (i + 1) L (.inl (zx_or x y) :: S) h)
  | .ixor => zx_p2 S (fun x y S => K (i + 1) L (.inl (zx_xor x y) :: S) h)
  | .ishl => zx_p2 S (fun x y S => K (i + 1) L (.inl (zx_shl x y) :: S) h)
  | .ishr => zx_p2 S (fun x y S => K (i + 1) L (.inl (zx_shr x y) :: S) h)
  | .iushr => zx_p2 S (fun x y S => K (i + 1) L (.inl (zx_ushr x y) :: S) h)
  | .idiv => zx_p2 S (fun x y S => (0 ≤ x ∧ 0 < y) ∧ K (i + 1) L (.inl (x / y) :: S) h)
  | .irem => zx_p2 S (fun x y S => (0 ≤ x ∧ 0 < y) ∧ K (i + 1) L (.inl (x % y) :: S) h)
  | .i2b => zx_p1 S (fun x S => (-128 ≤ x ∧ x < 128) ∧ K (i + 1) L (.inl x :: S) h)
  | .d2i => zx_p1 S (fun x S => K (i + 1) L (.inl (zx_b x) :: S) h)
  | .i2s => zx_p1 S (fun x S => K (i + 1) L (.inl (zx_s x) :: S) h)
  | .i2l => zx_p1 S (fun x S => K (i + 1) L (.inr (.inl x) :: S) h)
  | .l2i => match S with
    | .inr (.inl x) :: S => K (i + 1) L (.inl (zx_wr x) :: S) h
    | _ => False
  | .ladd => match S with
    | .inr (.inl y) :: .inr (.inl x) :: S => K (i + 1) L (.inr (.inl (zx_wl (x + y))) :: S) h
    | _ => False
  | .lcmp => match S with
    | .inr (.inl y) :: .inr (.inl x) :: S => K (i + 1) L (.inl (zx_lcmp x y) :: S) h
    | _ => False
  | .dup => match S with
    | .inl x :: S => K (i + 1) L (.inl x :: .inl x :: S) h
    | .inr (.inr x) :: S => K (i + 1) L (.inr (.inr x) :: .inr (.inr x) :: S) h
    | _ => False
  | .dup2 => zx_pi S (fun r x S => K (i + 1) L (.inl x :: .inr (.inr r) :: .inl x :: .inr (.inr r) :: S) h)
  | .pop => zx_p1 S (fun _ S => K (i + 1) L S h)
  | .goto _ => K a L S h
  | .ifCond c _ => zx_p1 S (fun x S => zx_cnd c x 0 (K a L S h) (K (i + 1) L S h))
  | .if_icmp c _ => zx_p2 S (fun x y S => zx_cnd c x y (K a L S h) (K (i + 1) L S h))
  | .tableswitch _ _ _ _ => zx_p1 S (fun x S => zx_sw x (fun t => K t L S h) ts a)
  | .lookupswitch _ _ => zx_p1 S (fun x S => zx_sw x (fun t => K t L S h) ts a)
  | .getfield _ => zx_pr S (fun r S => match zx_obB r a b with
    | true => K (i + 1) L (zx_fld (zx_nt (zx_rf r) b) (h r d) :: S) h
    | false => False)
  | .putfield _ => match S with
    | .inl x :: .inr (.inr r) :: S => (match zx_obB r a b && zx_noR (zx_nt (zx_rf r) b) with
      | true => K (i + 1) L S (zx_st h r d x)
      | false => False)
    | _ => False
  | .putstatic _ => match S with
    | .inl x :: .inr (.inr r) :: S => (match zx_obB r a b && zx_noR (zx_nt (zx_rf r) b) with
      | true => (x = 0 ∨ x = 1) ∧ K (i + 1) L S (zx_st h r d x)
      | false => False)
    | _ => False
  | .arraylength => zx_pr S (fun r S => match zx_isA r with
    | true => K (i + 1) L (.inl (zx_ln r) :: S) h
    | false => False)
  | .iaload => zx_pi S (fun r x S => match Nat.beq (zx_tg r) 1 with
    | true => (0 ≤ x ∧ x < zx_ln r) ∧ K (i + 1) L (.inl (h r x) :: S) h
    | false => False)
  | .baload => zx_pi S (fun r x S => match Nat.beq (zx_tg r) 2 with
    | true => (0 ≤ x ∧ x < zx_ln r) ∧ K (i + 1) L (.inl (h r x) :: S) h
    | false => False)
  | .saload => zx_pi S (fun r x S => match Nat.beq (zx_tg r) 3 with
    | true => (0 ≤ x ∧ x < zx_ln r) ∧ K (i + 1) L (.inl (h r x) :: S) h
    | false => False)
  | .aaload => zx_pi S (fun r x S => match zx_isR r with
    | true => (0 ≤ x ∧ x < zx_ln r) ∧ K (i + 1) L (.inr (.inr ((zx_nt (zx_rf r) x.toNat).getD 0)) :: S) h
    | false => False)
  | .iastore => zx_pii S (fun r x v S => match Nat.beq (zx_tg r) 1 with
    | true => (0 ≤ x ∧ x < zx_ln r) ∧ K (i + 1) L S (zx_st h r x v)
    | false => False)
  | .bastore => zx_pii S (fun r x v S => match Nat.beq (zx_tg r) 2 with
    | true => (0 ≤ x ∧ x < zx_ln r) ∧ (-128 ≤ v ∧ v < 128) ∧ K (i + 1) L S (zx_st h r x v)
    | false => False)
  | .sastore => zx_pii S (fun r x v S => match Nat.beq (zx_tg r) 3 with
    | true => (0 ≤ x ∧ x < zx_ln r) ∧ (v = 0 ∨ v = 1) ∧ K (i + 1) L S (zx_st h r x v)
    | false => False)
  | .monitorenter => zx_p2 S (fun x y S => zx_low S (K (i + 1) L (.inl (if x < y then y else x) :: S) h))
  | .monitorexit => zx_p2 S (fun x y S => zx_low S (K (i + 1) L (.inl (if y < x then y else x) :: S) h))
  | .swap => match S with
    | .inl n :: .inl dp :: .inr (.inr c) :: .inl sp :: .inr (.inr r) :: S => (zx_tg r = 1 ∧ zx_tg c = 1 ∧ 0 ≤ sp ∧ 0 ≤ dp ∧ 0 ≤ n ∧ sp + n ≤ zx_ln r ∧ dp + n ≤ zx_ln c) ∧ zx_low S (K (i + 1) L S (zx_cp h r sp c dp n))
    | _ => False
  | .invokevirtual _ => zx_tk b S [] (fun As S => zx_low S (R a As h (fun rv h' => K (i + 1) L (zx_psh rv S) h')))
  | .invokestatic _ => zx_tk b S [] (fun As S => zx_low S (R a As h (fun rv h' => K (i + 1) L (zx_psh rv S) h')))
  | .ireturn => match S with
    | [.inl x] => Q (some (.inl x)) h
    | _ => False
  | .freturn => match S with
    | [.inl x] => (x = 0 ∨ x = 1) ∧ Q (some (.inl x)) h
    | _ => False
  | .areturn => match S with
    | [.inr (.inr x)] => Q (some (.inr (.inr x))) h
    | _ => False
  | .return_ => match S with
    | [] => Q none h
    | _ => False
  | _ => False
/-- a walk of at most n instructions, up to the next loop's head, or to a cut (X) -/
def zx_vc (R : Nat → List zV → zM → zQ → Prop) (X : Nat → Bool) (P : Nat → zL → List zV → zM → Prop) (T : List (Bool × zE)) (Q : zQ) : Nat → Nat → zL → List zV → zM → Prop
  | 0, i, L, S, h => P i L S h
  | n + 1, i, L, S, h => match X i with
    | true => P i L S h
    | false => match zx_at T i with
      | some (true, _) => P i L S h
      | some (false, e) => zx_act R e i L S h Q (zx_vc R X P T Q n)
      | none => False
def zx_go (R : Nat → List zV → zM → zQ → Prop) (X : Nat → Bool) (P : Nat → zL → List zV → zM → Prop) (T : List (Bool × zE)) (Q : zQ) (n i : Nat) (L : zL) (S : List zV) (h : zM) : Prop := match zx_at T i with
  | some (_, e) => zx_act R e i L S h Q (zx_vc R X P T Q n)
  | none => False
