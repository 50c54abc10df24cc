/-! THE BUILDER'S RUN, whole -/
def zq_rows (j : Nat) : List zE → Nat → Bool
  | [], _ => true
  | w :: T, i => zq_e j i w && zq_rows j T (i + 1)
theorem zq_rows_at {j : Nat} {w : zE} : ∀ (T : List zE) (k i : Nat), zq_rows j T k = true → T[i]? = some w → zq_e j (k + i) w = true
  | [], _, _, _, h => by simp at h
  | v :: T, k, 0, hz, h => by
    simp only [zq_rows, Bool.and_eq_true] at hz
    simp at h
    rw [← h]
    exact hz.1
  | v :: T, k, i + 1, hz, h => by
    simp only [zq_rows, Bool.and_eq_true] at hz
    have := zq_rows_at T (k + 1) i hz.2 (by simpa using h)
    rw [show k + (i + 1) = k + 1 + i by omega]
    exact this
def zq_meth (j : Nat) : Bool := zq_rows j (zb_cd j) 0 && decide (zb_pc j 0 = 0) && plainName (zb_own j)
theorem zq_all : ∀ j, j < 12 → zq_meth j = true := by decide +kernel
section ZE
variable {j n0 : Nat} {p : Program} {l : Launch} {e : Env} {s : State} {m : MethodId} {args : Array Value} {below : List Frame} {meth : Method} {c : Code} {D : va_G} {ad0 : Nat → Nat} {cA : Nat → ClassId} {A : Nat → Prop} {Y : zbX} {call : Nat → List zV → zbX → Option zbX}
theorem zd_exec (C : zb_C j p s m args meth c D cA A) (hj : zq_meth j = true) (hcall : ∀ a As X Y, call a As X = some Y → zB a As X Y) : ∀ (n i : Nat) (L : zL) (S : List zV) (X : zbX) (cu su : Nat), zb_exec call j n i L S X cu su = some Y → zb_W j n0 ad0 p l e s m args below meth c D cA A Y i L S X cu su
  | 0, i, L, S, X, cu, su, h => by cases h
  | n + 1, i, L, S, X, cu, su, h => by
    simp only [zb_exec] at h
    split at h
    case h_2 => cases h
    rename_i w hw
    have hj2 := hj
    simp only [zq_meth, Bool.and_eq_true] at hj2
    have he := zq_rows_at (zb_cd j) 0 i hj2.1.1 hw
    rw [Nat.zero_add] at he
    exact zd_step C hcall he h (fun i2 L2 S2 X2 cu2 su2 hk => zd_exec C hj hcall n i2 L2 S2 X2 cu2 su2 hk)
end ZE
theorem zx_en_ok {As : List zV} {n k : Nat} (h : zb_okS n As) : zb_okL n (zx_en As k) := fun i v hv => h v (zx_en_in (ad := id) As k 0 i v hv).2
/-- a constructor's contract, out of the builder's run -/
theorem zd_call : ∀ (n j : Nat) (As : List zV) (X Y : zbX), zb_call n j As X = some Y → zB j As X Y := by
  intro n
  induction n with
  | zero => intro j As X Y h; cases h
  | succ n ih =>
    intro j As X Y h hok hwf l D ad cA A
    simp only [zb_call] at h
    split at h
    case isFalse => cases h
    rename_i hcnd
    have hj := zq_all j hcnd.1
    have hj2 := hj
    simp only [zq_meth, Bool.and_eq_true, decide_eq_true_eq] at hj2
    refine Met.ofW (cc := zb_by j) (maxL := zb_ml j) (ret := none) hj2.2 rfl ?_
    intro p e s m args below meth c s₁ B hml hv
    obtain ⟨rfl, hP, hK, hD, hX, hA⟩ := hv
    have hts := atoms_spec (ws := zb_wsj j) B.pre
    have hown : s.vm.findClass (zb_own j) = some m.cls := findClass_of_methodNamed B.named
    have hnm : meth.name = (zb_y j).name := (name_of_methodNamed B.named B.method).1
    have C : zb_C j p s m (As.map (zc_v ad)).toArray meth c D cA A := ⟨B.exec, B.bytes, B.returns, hml, hown, fun w hw => hts w (List.mem_cons_of_mem _ hw), B.notSynchronized, hK, hX, hA, hnm⟩
    have hl := lv_entry (As.map (zc_v ad)) (n := zb_ml j) (by rw [zx_sz_sl]; exact hcnd.2)
    rw [lg_entry_eq]
    have W0 := zd_exec (n0 := X.length) (ad0 := ad) (l := l) (e := e) (below := below) C hj ih 1000 0 _ [] X 0 0 h (Nat.zero_le _) (Nat.zero_le _) ad s.heap [] _ ⟨⟨hP, hD, va_S.rf⟩, ⟨⟨_, hl, fun i v hv => by have := (zx_en_in (ad := ad) As (zb_ml j) 0 i v hv).1; rwa [Nat.zero_add] at this⟩, zx_en_ok hok⟩, ⟨(fun v hv => by cases hv), hwf, Nat.le_refl _, fun _ _ => rfl⟩⟩
    rw [hj2.1.2] at W0
    exact W0
/-- the cells behind both constructors, in the order of their making -/
def zb_X1 : zbX := [(0, 9, [some (.inr (.inr 1)), some (.inr (.inr 12)), some (.inr (.inr 22)), some (.inr (.inr 43)), some (.inr (.inr 44)), some (.inr (.inr 60)), some (.inr (.inr 62)), some (.inr (.inr 64)), some (.inr (.inr 66)), some (.inr (.inr 68)), some (.inr (.inr 70)), some (.inr (.inr 71)), some (.inr (.inr 72)), some (.inl 0), some (.inl (-4)), some (.inl 0), some (.inl 1)], []),
  (0, 4, [some (.inr (.inr 2)), some (.inr (.inr 4)), some (.inl 0), some (.inl 0), some (.inl 0), some (.inl 0), some (.inl 0), some (.inl 0)], []),
  (0, 7, [some (.inr (.inr 3)), some (.inl 0)], []),
  (2, 320, [], []),
  (0, 8, [some (.inr (.inr 5)), some (.inr (.inr 6)), some (.inr (.inr 7)), some (.inr (.inr 8)), some (.inr (.inr 9)), some (.inr (.inr 10)), some (.inr (.inr 11)), some (.inl 0), some (.inl 0)], []),
  (1, 8, [], []),
  (1, 8, [], []),
  (1, 8, [], []),
  (1, 8, [], []),
  (1, 8, [], []),
  (1, 8, [], []),
  (1, 120, [], []),
  (0, 3, [some (.inr (.inr 13)), some (.inr (.inr 21)), some (.inl 1)], []),
  (0, 8, [some (.inr (.inr 14)), some (.inr (.inr 15)), some (.inr (.inr 16)), some (.inr (.inr 17)), some (.inr (.inr 18)), some (.inr (.inr 19)), some (.inr (.inr 20)), some (.inl 0), some (.inl 0)], []),
  (1, 8, [], []),
  (1, 8, [], []),
  (1, 8, [], []),
  (1, 8, [], []),
  (1, 8, [], []),
  (1, 8, [], []),
  (1, 120, [], []),
  (1, 6, [], [(5, (-4)), (4, (-4)), (3, (-4)), (2, (-4)), (1, (-4)), (0, (-4))]),
  (4, 2, [some (.inr (.inr 23)), some (.inr (.inr 33))], []),
  (0, 3, [some (.inr (.inr 24)), some (.inr (.inr 32)), some (.inl 1)], []),
  (0, 8, [some (.inr (.inr 25)), some (.inr (.inr 26)), some (.inr (.inr 27)), some (.inr (.inr 28)), some (.inr (.inr 29)), some (.inr (.inr 30)), some (.inr (.inr 31)), some (.inl 0), some (.inl 0)], []),
  (1, 8, [], []),
  (1, 8, [], []),
  (1, 8, [], []),
  (1, 8, [], []),
  (1, 8, [], []),
  (1, 8, [], []),
  (1, 120, [], []),
  (1, 6, [], [(5, (-4)), (4, (-4)), (3, (-4)), (2, (-4)), (1, (-4)), (0, (-4))]),
  (0, 3, [some (.inr (.inr 34)), some (.inr (.inr 42)), some (.inl 1)], []),
  (0, 8, [some (.inr (.inr 35)), some (.inr (.inr 36)), some (.inr (.inr 37)), some (.inr (.inr 38)), some (.inr (.inr 39)), some (.inr (.inr 40)), some (.inr (.inr 41)), some (.inl 0), some (.inl 0)], []),
  (1, 8, [], []),
  (1, 8, [], []),
  (1, 8, [], []),
  (1, 8, [], []),
  (1, 8, [], []),
  (1, 8, [], []),
  (1, 120, [], []),
  (1, 6, [], [(5, (-4)), (4, (-4)), (3, (-4)), (2, (-4)), (1, (-4)), (0, (-4))]),
  (3, 2, [], []),
  (0, 2, [some (.inr (.inr 45)), some (.inr (.inr 47)), some (.inr (.inr 55)), some (.inr (.inr 56)), some (.inr (.inr 57)), some (.inl 0), some (.inr (.inr 58)), some (.inr (.inr 59))], []),
  (0, 0, [some (.inr (.inr 46)), some (.inl 0)], []),
  (1, 8, [], []),
  (0, 8, [some (.inr (.inr 48)), some (.inr (.inr 49)), some (.inr (.inr 50)), some (.inr (.inr 51)), some (.inr (.inr 52)), some (.inr (.inr 53)), some (.inr (.inr 54)), some (.inl 0), some (.inl 0)], []),
  (1, 40, [], []),
  (1, 40, [], []),
  (1, 40, [], []),
  (1, 40, [], []),
  (1, 40, [], []),
  (1, 40, [], []),
  (1, 4800, [], []),
  (1, 40, [], []),
  (1, 40, [], []),
  (1, 240, [], []),
  (1, 6, [], []),
  (1, 6, [], []),
  (0, 1, [some (.inr (.inr 61)), some (.inl 0)], []),
  (2, 512, [], []),
  (0, 1, [some (.inr (.inr 63)), some (.inl 0)], []),
  (2, 512, [], []),
  (0, 5, [some (.inr (.inr 65)), some (.inl 0), some (.inl 0), some (.inl 0), some (.inl 0), some (.inl 0)], []),
  (1, 6, [], []),
  (0, 5, [some (.inr (.inr 67)), some (.inl 0), some (.inl 0), some (.inl 0), some (.inl 0), some (.inl 0)], []),
  (1, 6, [], []),
  (0, 5, [some (.inr (.inr 69)), some (.inl 0), some (.inl 0), some (.inl 0), some (.inl 0), some (.inl 0)], []),
  (1, 6, [], []),
  (1, 6, [], []),
  (1, 6, [], []),
  (5, 4, [some (.inr (.inr 73)), some (.inr (.inr 75)), some (.inr (.inr 77)), some (.inr (.inr 79))], []),
  (0, 6, [some (.inr (.inr 74)), some (.inl (-4)), some (.inl 0)], []),
  (1, 40, [], []),
  (0, 6, [some (.inr (.inr 76)), some (.inl (-4)), some (.inl 0)], []),
  (1, 40, [], []),
  (0, 6, [some (.inr (.inr 78)), some (.inl (-4)), some (.inl 0)], []),
  (1, 40, [], []),
  (0, 6, [some (.inr (.inr 80)), some (.inl (-4)), some (.inl 0)], []),
  (1, 40, [], []),
  (0, 10, [some (.inr (.inr 82)), some (.inr (.inr 83)), some (.inl 0), some (.inl 0), some (.inl 0), some (.inl 0), some (.inl 0), some (.inl 0), some (.inl 0), some (.inl 0), some (.inr (.inr 84)), some (.inr (.inr 85)), some (.inl 0), some (.inr (.inr 86)), some (.inl 0), some (.inl 0), some (.inl 0), some (.inr (.inr 87)), some (.inr (.inr 88)), some (.inr (.inr 89)), some (.inr (.inr 90)), some (.inr (.inr 91)), some (.inr (.inr 92)), some (.inr (.inr 93)), some (.inr (.inr 94)), some (.inr (.inr 95)), some (.inr (.inr 96)), some (.inl 0), some (.inr (.inr 97)), some (.inr (.inr 98)), some (.inr (.inr 99)), some (.inl 0), some (.inl 0), some (.inl 0), some (.inl 0), some (.inl 0), some (.inl 0), some (.inr (.inr 100)), some (.inr (.inr 101)), some (.inr (.inr 102)), some (.inr (.inr 103)), some (.inr (.inr 104)), some (.inr (.inr 105)), some (.inr (.inr 106)), some (.inr (.inr 107)), some (.inl 0)], []),
  (1, 708, [], []),
  (1, 320, [], []),
  (1, 11, [], [(10, 37), (9, 33), (8, 29), (7, 25), (6, 21), (5, 16), (4, 12), (3, 10), (2, 6), (1, 3), (0, 0)]),
  (1, 37, [], [(36, 101), (35, 114), (34, 111), (33, 109), (32, 101), (31, 109), (30, 97), (29, 115), (28, 115), (27, 115), (26, 101), (25, 108), (24, 115), (23, 117), (22, 108), (21, 112), (20, 107), (19, 99), (18, 111), (17, 108), (16, 98), (15, 112), (14, 111), (13, 116), (12, 115), (11, 102), (10, 105), (9, 111), (8, 116), (7, 111), (6, 103), (5, 121), (4, 97), (3, 115), (2, 116), (1, 101), (0, 115)]),
  (1, 8, [], []),
  (1, 40, [], []),
  (1, 240, [], []),
  (1, 40, [], []),
  (1, 40, [], []),
  (1, 40, [], []),
  (1, 40, [], []),
  (1, 40, [], []),
  (1, 4800, [], []),
  (1, 6, [], []),
  (1, 800, [], []),
  (1, 40, [], []),
  (1, 6, [], []),
  (1, 6, [], []),
  (1, 10, [], []),
  (1, 6, [], []),
  (1, 8, [], []),
  (3, 2, [], [(1, 0), (0, 0)]),
  (1, 4, [], [(3, (-4)), (2, (-4)), (1, (-4)), (0, (-4))]),
  (1, 4, [], [(3, 0), (2, 0), (1, 0), (0, 0)]),
  (1, 160, [], []),
  (1, 6, [], [])]
def zb_mid : Nat := 81
/-- a place's number among them -/
def zx_pmT : List Nat := [0, 1, 2, 3, 4, 5, 6, 7, 8, 9, 10, 11, 13, 14, 15, 16, 17, 18, 19, 20, 24, 25, 26, 27, 28, 29, 30, 31, 34, 35, 36, 37, 38, 39, 40, 41, 47, 48, 49, 50, 51, 52, 53, 54, 12, 21, 23, 32, 33, 42, 22, 43, 44, 45, 46, 55, 56, 57, 58, 59, 60, 61, 62, 63, 64, 65, 66, 67, 68, 69, 70, 71, 72, 73, 74, 75, 76, 77, 78, 79, 80, 81, 82, 83, 84, 85, 86, 87, 88, 89, 90, 91, 92, 93, 94, 95, 96, 97, 98, 99, 100, 101, 102, 103, 104, 105, 106, 107]
/-- the memory with which the law's loop begins: what isn't 0 -/
def zx_h0T : List (List (Nat × Int)) := [[(14, (-4)), (16, 1)],
  [],
  [],
  [],
  [],
  [],
  [],
  [],
  [],
  [],
  [],
  [],
  [],
  [],
  [],
  [],
  [],
  [],
  [],
  [],
  [],
  [],
  [],
  [],
  [],
  [],
  [],
  [],
  [],
  [],
  [],
  [],
  [],
  [],
  [],
  [],
  [],
  [],
  [],
  [],
  [],
  [],
  [],
  [],
  [(2, 1)],
  [(5, (-4)), (4, (-4)), (3, (-4)), (2, (-4)), (1, (-4)), (0, (-4))],
  [(2, 1)],
  [(5, (-4)), (4, (-4)), (3, (-4)), (2, (-4)), (1, (-4)), (0, (-4))],
  [(2, 1)],
  [(5, (-4)), (4, (-4)), (3, (-4)), (2, (-4)), (1, (-4)), (0, (-4))],
  [],
  [],
  [],
  [],
  [],
  [],
  [],
  [],
  [],
  [],
  [],
  [],
  [],
  [],
  [],
  [],
  [],
  [],
  [],
  [],
  [],
  [],
  [],
  [(1, (-4))],
  [],
  [(1, (-4))],
  [],
  [(1, (-4))],
  [],
  [(1, (-4))],
  [],
  [],
  [],
  [],
  [(10, 37), (9, 33), (8, 29), (7, 25), (6, 21), (5, 16), (4, 12), (3, 10), (2, 6), (1, 3), (0, 0)],
  [(36, 101), (35, 114), (34, 111), (33, 109), (32, 101), (31, 109), (30, 97), (29, 115), (28, 115), (27, 115), (26, 101), (25, 108), (24, 115), (23, 117), (22, 108), (21, 112), (20, 107), (19, 99), (18, 111), (17, 108), (16, 98), (15, 112), (14, 111), (13, 116), (12, 115), (11, 102), (10, 105), (9, 111), (8, 116), (7, 111), (6, 103), (5, 121), (4, 97), (3, 115), (2, 116), (1, 101), (0, 115)],
  [],
  [],
  [],
  [],
  [],
  [],
  [],
  [],
  [],
  [],
  [],
  [],
  [],
  [],
  [],
  [],
  [],
  [(1, 0), (0, 0)],
  [(3, (-4)), (2, (-4)), (1, (-4)), (0, (-4))],
  [(3, 0), (2, 0), (1, 0), (0, 0)],
  [],
  []]
def zb_beC (a b : zbC) : Bool := decide (a.1 = b.1) && decide (a.2.1 = b.2.1) && decide (a.2.2.1 = b.2.2.1) && decide (a.2.2.2 = b.2.2.2)
def zb_be : zbX → zbX → Bool
  | [], [] => true
  | a :: X, b :: Y => zb_beC a b && zb_be X Y
  | _, _ => false
def zb_beO (o : Option zbX) (Y : zbX) : Bool := match o with
  | some X => zb_be X Y
  | none => false
theorem zb_be_eq : ∀ (X Y : zbX), zb_be X Y = true → X = Y
  | [], [], _ => rfl
  | [], _ :: _, h => by cases h
  | _ :: _, [], h => by cases h
  | (a1, a2, a3, a4) :: X, (b1, b2, b3, b4) :: Y, h => by
    simp only [zb_be, zb_beC, Bool.and_eq_true, decide_eq_true_eq] at h
    obtain ⟨⟨⟨⟨h1, h2⟩, h3⟩, h4⟩, h5⟩ := h
    rw [h1, h2, h3, h4, zb_be_eq X Y h5]
theorem zb_beO_eq {o : Option zbX} {Y : zbX} (h : zb_beO o Y = true) : o = some Y := by
  cases o with
  | none => cases h
  | some X => rw [zb_be_eq X Y h]
theorem zb_run1 : zb_call 5 9 [.inr (.inr 0)] [(0, 9, zb_df 9, [])] = some (zb_X1.take zb_mid) := zb_beO_eq (by decide +kernel)
theorem zb_run2 : zb_call 5 10 [.inr (.inr zb_mid)] (zb_X1.take zb_mid ++ [(0, 10, zb_df 10, [])]) = some zb_X1 := zb_beO_eq (by decide +kernel)
def zx_pm (r : Nat) : Nat := zx_pmT.getD r 0
def zx_h0w (r : Nat) : List (Nat × Int) := zx_h0T.getD r []
/-- THE MEMORY at the beginning -/
def zx_h0 : zM := fun r k => if 0 ≤ k then zb_fn (zx_h0w r) k.toNat else 0
def zp_rf (r k : Nat) : Option zV := match zx_nt (zx_rf r) k with
  | none => none
  | some q => some (.inr (.inr (zx_pm q)))
def zp_fd (r k : Nat) : Option zV := match zx_nt (zx_rf r) k with
  | none => some (.inl (zb_fn (zx_h0w r) k))
  | some q => some (.inr (.inr (zx_pm q)))
/-- a place is a cell: checked by program -/
def zp_ok (r : Nat) : Bool := match zb_X1[zx_pm r]? with
  | some (t, n, fs, w) => decide (t = zx_tg r) && decide (t < 6) && (match t with
    | 0 => decide (n = zx_ci r) && decide (fs = (List.range (zx_n r)).map (zp_fd r))
    | 4 => decide (n = zx_n r) && decide (fs = (List.range (zx_n r)).map (zp_rf r))
    | 5 => decide (n = zx_n r) && decide (fs = (List.range (zx_n r)).map (zp_rf r))
    | _ => decide (n = zx_n r) && decide (w = zx_h0w r))
  | none => false
theorem zp_all : ∀ r, r < 108 → zp_ok r = true := by decide +kernel
theorem zp_inj : ∀ r, r < 108 → ∀ q, q < 108 → zx_pm r = zx_pm q → r = q := by decide +kernel
theorem zp_lt : ∀ r, r < 108 → zx_pm r < 108 := by decide +kernel
theorem zp_rfl : ∀ r, r < 108 → ∀ q ∈ zx_rf r, ∀ x, q = some x → x < 108 := by
  have : ∀ r, r < 108 → ∀ q ∈ zx_rf r, q.all (fun x => decide (x < 108)) = true := by decide +kernel
  intro r hr q hq x hx
  have h := this r hr q hq
  rw [hx] at h
  simpa using h
theorem zx_nt_mem : ∀ (l : List (Option Nat)) (k q : Nat), zx_nt l k = some q → some q ∈ l
  | [], _, _, h => by cases h
  | v :: l, 0, q, h => by
    simp only [zx_nt] at h
    rw [h]
    exact List.mem_cons_self
  | v :: l, k + 1, q, h => List.mem_cons_of_mem _ (zx_nt_mem l k q h)
theorem zx_h0_nat (r k : Nat) : zx_h0 r (k : Int) = zb_fn (zx_h0w r) k := by
  unfold zx_h0
  rw [if_pos (by omega)]
  rfl
/-- a place's cell is the cell of its number -/
theorem zp_el {ad adp : Nat → Nat} {cA : Nat → ClassId} (hp : ∀ r, r < 108 → adp r = ad (zx_pm r)) {r : Nat} (hr : r < 108) : ∃ c, zb_X1[zx_pm r]? = some c ∧ zb_el ad cA c = zc_el adp cA zx_h0 r := by
  have h := zp_all r hr
  unfold zp_ok at h
  split at h
  case h_2 => cases h
  rename_i t n fs w hc
  simp only [Bool.and_eq_true, decide_eq_true_eq] at h
  obtain ⟨⟨ht, h6⟩, h⟩ := h
  refine ⟨_, hc, ?_⟩
  have hrow : (fun k : Nat => Int32.ofInt (zx_h0 r (k : Int))) = fun k => Int32.ofInt (zb_fn (zx_h0w r) k) := by
    funext k
    rw [zx_h0_nat]
  have href : ∀ k, (zp_rf r k = none ∧ zx_nt (zx_rf r) k = none) ∨ ∃ q, zp_rf r k = some (.inr (.inr (zx_pm q))) ∧ zx_nt (zx_rf r) k = some q ∧ q < 108 := by
    intro k
    unfold zp_rf
    cases hq : zx_nt (zx_rf r) k with
    | none => exact Or.inl ⟨rfl, rfl⟩
    | some q => exact Or.inr ⟨q, rfl, rfl, zp_rfl r hr _ (zx_nt_mem _ _ _ hq) q rfl⟩
  have hre : ∀ n, zx_n r = n → zb_ref ad ((List.range n).map (zp_rf r)) = fun k => if k < n then (zx_nt (zx_rf r) k).map adp else none := by
    intro n hn
    funext k
    unfold zb_ref
    by_cases hk : k < n
    · rw [if_pos hk, List.getElem?_map, List.getElem?_range hk]
      rcases href k with ⟨h1, h2⟩ | ⟨q, h1, h2, h3⟩
      · simp [h1, h2]
      · simp [h1, h2, hp q h3]
    · rw [if_neg hk, List.getElem?_eq_none (by simp; omega)]
  have hout : ∀ k, (zx_tg r = 4 ∨ zx_tg r = 5) → ¬ k < zx_n r → zx_nt (zx_rf r) k = none := by
    intro k ht2 hk
    have hlen : ∀ r, r < 108 → (zx_tg r = 4 ∨ zx_tg r = 5) → (zx_rf r).length = zx_n r := by decide +kernel
    have hl := hlen r hr ht2
    have hno : ∀ (l : List (Option Nat)) (k : Nat), l.length ≤ k → zx_nt l k = none := by
      intro l
      induction l with
      | nil => intro k _; rfl
      | cons v l ih =>
        intro k hk
        cases k with
        | zero => simp at hk
        | succ k => exact ih k (by simpa using hk)
    exact hno _ _ (by omega)
  have hrefs : (zx_tg r = 4 ∨ zx_tg r = 5) → zb_ref ad ((List.range (zx_n r)).map (zp_rf r)) = fun k => (zx_nt (zx_rf r) k).map adp := by
    intro ht2
    rw [hre _ rfl]
    funext k
    by_cases hk : k < zx_n r
    · rw [if_pos hk]
    · rw [if_neg hk, hout k ht2 hk]
      rfl
  have hfd : ((List.range (zx_n r)).map (zp_fd r)).map (zb_val ad) = zc_fs adp zx_h0 r := by
    unfold zc_fs
    rw [List.map_map]
    apply List.map_congr_left
    intro k _
    show zb_val ad (zp_fd r k) = _
    unfold zp_fd
    cases hq : zx_nt (zx_rf r) k with
    | none =>
      show Value.int (Int32.ofInt _) = Value.int (Int32.ofInt _)
      rw [zx_h0_nat]
    | some q =>
      show Value.ref (ad (zx_pm q)) = Value.ref (adp q)
      rw [hp q (zp_rfl r hr _ (zx_nt_mem _ _ _ hq) q rfl)]
  have hcs : t = 0 ∨ t = 1 ∨ t = 2 ∨ t = 3 ∨ t = 4 ∨ t = 5 := by omega
  rcases hcs with rfl | rfl | rfl | rfl | rfl | rfl
  · simp only [Bool.and_eq_true, decide_eq_true_eq] at h
    rw [zc_el0 ht.symm, h.1, h.2]
    show Sum.inr (zx_ci r, _) = _
    rw [hfd]
  · simp only [Bool.and_eq_true, decide_eq_true_eq] at h
    rw [zc_el1 ht.symm, h.1, h.2, hrow]
    rfl
  · simp only [Bool.and_eq_true, decide_eq_true_eq] at h
    rw [zc_el2 ht.symm, h.1, h.2, hrow]
    rfl
  · simp only [Bool.and_eq_true, decide_eq_true_eq] at h
    rw [zc_el3 ht.symm, h.1, h.2, hrow]
    rfl
  · simp only [Bool.and_eq_true, decide_eq_true_eq] at h
    rw [zc_el4 ht.symm, h.1, h.2]
    show Sum.inl (cA 4, zx_n r, Sum.inr (Sum.inr (Sum.inr (Sum.inr (zb_ref ad _))))) = _
    rw [hrefs (Or.inl ht.symm)]
  · simp only [Bool.and_eq_true, decide_eq_true_eq] at h
    rw [zc_el5 ht.symm, h.1, h.2]
    show Sum.inl (cA 5, zx_n r, Sum.inr (Sum.inr (Sum.inr (Sum.inr (zb_ref ad _))))) = _
    rw [hrefs (Or.inr ht.symm)]
/-- the world that both constructors leave is that of the shadow's first memory -/
theorem zp_world {D : va_G} {ad adp : Nat → Nat} {cA : Nat → ClassId} {A : Nat → Prop} {H : Heap} (hp : ∀ r, r < 108 → adp r = ad (zx_pm r)) (hP : va_P D vwCl (zb_ws ad cA 0 zb_X1) H) (hD : va_D A (zb_ws ad cA 0 zb_X1)) : va_P D vwCl (zc_ws adp cA zx_h0) H ∧ va_D A (zc_ws adp cA zx_h0) := by
  have key : ∀ (k : Nat) (q : Nat × va_E), (zc_ws adp cA zx_h0)[k]? = some q → k < 108 ∧ (zb_ws ad cA 0 zb_X1)[zx_pm k]? = some q := by
    intro k q hq
    have hk := zc_at_inv hq
    rw [zc_at adp cA zx_h0 hk] at hq
    obtain ⟨c, h1, h2⟩ := zp_el (cA := cA) hp hk
    have := zb_ws_at (ad := ad) (cA := cA) zb_X1 0 (zx_pm k) h1
    refine ⟨hk, ?_⟩
    rw [this, Nat.zero_add, h2, ← hp k hk]
    exact hq
  refine ⟨fun k q hq => hP _ q (key k q hq).2, fun i j x y hi hj hxy => ?_, fun k q hq => hD.2 _ q (key k q hq).2⟩
  obtain ⟨i1, i2⟩ := key i x hi
  obtain ⟨j1, j2⟩ := key j y hj
  exact zp_inj i i1 j j1 (hD.1 _ _ x y i2 j2 hxy)
theorem zx_h0_M : zc_M zx_h0 := by
  have hw : ∀ r, r < 108 → (zx_h0w r).all (fun q => decide (-2147483648 ≤ q.2 ∧ q.2 < 2147483648)) = true := by decide +kernel
  have hf : ∀ (w : List (Nat × Int)) (k : Nat), w.all (fun q => decide (-2147483648 ≤ q.2 ∧ q.2 < 2147483648)) = true → zc_i (zb_fn w k) := by
    intro w
    induction w with
    | nil => intro k _; exact zc_i0
    | cons q w ih =>
      intro k h
      simp only [List.all_cons, Bool.and_eq_true, decide_eq_true_eq] at h
      obtain ⟨a, v⟩ := q
      simp only [zb_fn]
      by_cases c : k = a
      · rw [if_pos c]; exact h.1
      · rw [if_neg c]; exact ih k h.2
  intro r k
  unfold zx_h0
  by_cases c : 0 ≤ k
  · rw [if_pos c]
    rcases Nat.lt_or_ge r 108 with q | q
    · exact hf _ _ (hw r q)
    · have : zx_h0w r = [] := by
        unfold zx_h0w
        rw [List.getD_eq_getElem?_getD, List.getElem?_eq_none (by have : zx_h0T.length = 108 := by decide +kernel
                                                                  omega)]
        rfl
      rw [this]
      exact zc_i0
  · rw [if_neg c]; exact zc_i0
