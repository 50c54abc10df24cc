/-! A WALK of the shadow is one of the machine; a method's contract out of it -/
def zk_rows (j : Nat) : List (Bool × zE) → Nat → Bool
  | [], _ => true
  | (_, w) :: T, i => zk_e j i w && zk_rows j T (i + 1)
def zk_meth (j : Nat) : Bool := zk_rows j (zx_cd j) 0 && decide (zx_pc j 0 = 0) && plainName (zc_own j)
theorem zk_rows_at {j : Nat} {fl : Bool} {w : zE} : ∀ (T : List (Bool × zE)) (k i : Nat), zk_rows j T k = true → zx_at T i = some (fl, w) → zk_e j (k + i) w = true
  | [], _, _, _, h => by simp [zx_at] at h
  | (_, v) :: T, k, 0, hz, h => by
    simp only [zk_rows, Bool.and_eq_true] at hz
    simp only [zx_at, Option.some.injEq, Prod.mk.injEq] at h
    rw [← h.2]
    exact hz.1
  | (_, v) :: T, k, i + 1, hz, h => by
    simp only [zk_rows, Bool.and_eq_true] at hz
    have := zk_rows_at T (k + 1) i hz.2 h
    rw [show k + (i + 1) = k + 1 + i by omega]
    exact this
/-- the locals with which a method begins -/
def zx_en : List zV → Nat → zL
  | [], n => List.replicate n none
  | .inl x :: As, n => some (.inl x) :: zx_en As (n - 1)
  | .inr (.inl x) :: As, n => some (.inr (.inl x)) :: none :: zx_en As (n - 2)
  | .inr (.inr x) :: As, n => some (.inr (.inr x)) :: zx_en As (n - 1)
def zx_sz : List zV → Nat
  | [] => 0
  | .inl _ :: As => zx_sz As + 1
  | .inr (.inl _) :: As => zx_sz As + 2
  | .inr (.inr _) :: As => zx_sz As + 1
theorem zx_lk_rep : ∀ (n i : Nat) (v : zV), zx_lk (List.replicate n none) i = some v → False
  | 0, i, v, h => by simp [zx_lk] at h
  | n + 1, 0, v, h => by simp [List.replicate_succ, zx_lk] at h
  | n + 1, i + 1, v, h => by
    rw [List.replicate_succ] at h
    exact zx_lk_rep n i v h
theorem zx_en_in {ad : Nat → Nat} : ∀ (As : List zV) (n k i : Nat) (v : zV), zx_lk (zx_en As n) i = some v → (k + i, zc_v ad v) ∈ lv_args k (As.map (zc_v ad)) ∧ v ∈ As
  | [], n, k, i, v, h => (zx_lk_rep n i v h).elim
  | .inl x :: As, n, k, 0, v, h => by
    simp only [zx_en, zx_lk, Option.some.injEq] at h
    subst h
    exact ⟨List.mem_cons_self, List.mem_cons_self⟩
  | .inl x :: As, n, k, i + 1, v, h => by
    have := zx_en_in (ad := ad) As (n - 1) (k + 1) i v h
    rw [show k + (i + 1) = k + 1 + i by omega]
    exact ⟨List.mem_cons_of_mem _ this.1, List.mem_cons_of_mem _ this.2⟩
  | .inr (.inl x) :: As, n, k, 0, v, h => by
    simp only [zx_en, zx_lk, Option.some.injEq] at h
    subst h
    exact ⟨List.mem_cons_self, List.mem_cons_self⟩
  | .inr (.inl x) :: As, n, k, 1, v, h => by simp [zx_en, zx_lk] at h
  | .inr (.inl x) :: As, n, k, i + 2, v, h => by
    have := zx_en_in (ad := ad) As (n - 2) (k + 2) i v h
    rw [show k + (i + 2) = k + 2 + i by omega]
    exact ⟨List.mem_cons_of_mem _ this.1, List.mem_cons_of_mem _ this.2⟩
  | .inr (.inr x) :: As, n, k, 0, v, h => by
    simp only [zx_en, zx_lk, Option.some.injEq] at h
    subst h
    exact ⟨List.mem_cons_self, List.mem_cons_self⟩
  | .inr (.inr x) :: As, n, k, i + 1, v, h => by
    have := zx_en_in (ad := ad) As (n - 1) (k + 1) i v h
    rw [show k + (i + 1) = k + 1 + i by omega]
    exact ⟨List.mem_cons_of_mem _ this.1, List.mem_cons_of_mem _ this.2⟩
theorem zx_sz_sl (ad : Nat → Nat) : ∀ As : List zV, (lg_sl (As.map (zc_v ad))).length = zx_sz As
  | [] => rfl
  | .inl x :: As => by
    have := zx_sz_sl ad As
    simp only [lg_sl, List.map_cons, List.flatMap_cons, List.length_append] at this ⊢
    rw [this]
    simp [zc_v, Value.category, zx_sz]
    omega
  | .inr (.inl x) :: As => by
    have := zx_sz_sl ad As
    simp only [lg_sl, List.map_cons, List.flatMap_cons, List.length_append] at this ⊢
    rw [this]
    simp [zc_v, Value.category, zx_sz]
    omega
  | .inr (.inr x) :: As => by
    have := zx_sz_sl ad As
    simp only [lg_sl, List.map_cons, List.flatMap_cons, List.length_append] at this ⊢
    rw [this]
    simp [zc_v, Value.category, zx_sz]
    omega
section ZY
variable {j : Nat} {p : Program} {l : Launch} {e : Env} {s : State} {m : MethodId} {args : Array Value} {below : List Frame} {meth : Method} {c : Code} {D : va_G} {ad adV : Nat → Nat} {cA : Nat → ClassId} {A : Nat → Prop} {Q : zQ} {X : Nat → Bool} {P : Nat → zL → List zV → zM → Prop}
theorem zc_vc (C : zc_C j p s m args meth c D ad adV cA A) (hj : zk_meth j = true) (hP : ∀ i L S h, P i L S h → zc_W j p l e s m args below meth c D ad adV cA A (MQ below (zc_Qc Q D ad cA A) args s 0 0 A) i L S h) : ∀ (n i : Nat) (L : zL) (S : List zV) (h : zM), zx_vc zR X P (zx_cd j) Q n i L S h → zc_W j p l e s m args below meth c D ad adV cA A (MQ below (zc_Qc Q D ad cA A) args s 0 0 A) i L S h
  | 0, i, L, S, h, hv => hP i L S h hv
  | n + 1, i, L, S, h, hv => by
    simp only [zx_vc] at hv
    split at hv
    · exact hP i L S h hv
    split at hv
    · exact hP i L S h hv
    · rename_i w hw
      simp only [zk_meth, Bool.and_eq_true] at hj
      have he := zk_rows_at (zx_cd j) 0 i hj.1.1 hw
      rw [Nat.zero_add] at he
      exact zc_step C he hv (fun i2 L2 S2 h2 hk => zc_vc C (by simp only [zk_meth, Bool.and_eq_true]; exact hj) hP n i2 L2 S2 h2 hk)
    · exact hv.elim
theorem zc_go (C : zc_C j p s m args meth c D ad adV cA A) (hj : zk_meth j = true) (hP : ∀ i L S h, P i L S h → zc_W j p l e s m args below meth c D ad adV cA A (MQ below (zc_Qc Q D ad cA A) args s 0 0 A) i L S h) {n i : Nat} {L : zL} {S : List zV} {h : zM} (hv : zx_go zR X P (zx_cd j) Q n i L S h) : zc_W j p l e s m args below meth c D ad adV cA A (MQ below (zc_Qc Q D ad cA A) args s 0 0 A) i L S h := by
  unfold zx_go at hv
  split at hv
  · rename_i fl w hw
    have hj2 := hj
    simp only [zk_meth, Bool.and_eq_true] at hj2
    have he := zk_rows_at (zx_cd j) 0 i hj2.1.1 hw
    rw [Nat.zero_add] at he
    exact zc_step C he hv (fun i2 L2 S2 h2 hk => zc_vc C hj hP n i2 L2 S2 h2 hk)
  · exact hv.elim
/-- loops: a measure that falls -/
theorem zc_loop (C : zc_C j p s m args meth c D ad adV cA A) (hj : zk_meth j = true) (f : Nat) (I : Nat → Nat → zL → List zV → zM → Prop) (hs : ∀ n i L S h, zc_M h → I n i L S h → zx_go zR X (fun i2 L2 S2 h2 => ∃ n2, n2 < n ∧ I n2 i2 L2 S2 h2) (zx_cd j) Q f i L S h) : ∀ (n i : Nat) (L : zL) (S : List zV) (h : zM), I n i L S h → zc_W j p l e s m args below meth c D ad adV cA A (MQ below (zc_Qc Q D ad cA A) args s 0 0 A) i L S h := by
  intro n
  induction n using Nat.strongRecOn with
  | ind n ih =>
    intro i L S h hi H locs ls II
    exact zc_go C hj (fun i2 L2 S2 h2 hp => by obtain ⟨n2, h1, h2⟩ := hp; exact ih n2 h1 _ _ _ _ h2) (hs n i L S h II.2.2.2 hi) H locs ls II
end ZY
/-- A METHOD'S CONTRACT out of its walk: I is what holds at loops' heads, with a measure -/
theorem zx_met {j : Nat} {As : List zV} {h : zM} {Q : zQ} (hj : zk_meth j = true) (hrc : zc_rcv j As) (hsz : zx_sz As ≤ zx_ml j) (X : Nat → Bool) (f : Nat) (I : Nat → Nat → zL → List zV → zM → Prop)
    (h0 : zc_okS As → zc_M h → zx_go zR X (fun i L S h => ∃ n, I n i L S h) (zx_cd j) Q f 0 (zx_en As (zx_ml j)) [] h)
    (hs : zc_okS As → zc_M h → ∀ n i L S h2, zc_M h2 → I n i L S h2 → zx_go zR X (fun i2 L2 S2 h2 => ∃ n2, n2 < n ∧ I n2 i2 L2 S2 h2) (zx_cd j) Q f i L S h2) : zR j As h Q := by
  refine ⟨hrc, fun hok hM l D ad adV cA A => ?_⟩
  have hj2 := hj
  simp only [zk_meth, Bool.and_eq_true, decide_eq_true_eq] at hj2
  refine Met.ofW (cc := zx_by j) (maxL := zx_ml j) (ret := zx_rt j) hj2.2 rfl ?_
  intro p e s m args below meth c s₁ B hml hv
  obtain ⟨rfl, hP, hK, hD, hX, hA⟩ := hv
  have hts := atoms_spec (ws := zc_wsj j) B.pre
  have hown : s.vm.findClass (zc_own j) = some m.cls := findClass_of_methodNamed B.named
  have C : zc_C j p s m (As.map (zc_v ad)).toArray meth c D ad adV cA A := ⟨B.exec, B.bytes, B.returns, hml, hown, fun w hw => hts w (List.mem_cons_of_mem _ hw), B.notSynchronized, hK, hX, hA⟩
  have hl := lv_entry (As.map (zc_v ad)) (n := zx_ml j) (by rw [zx_sz_sl]; exact hsz)
  rw [lg_entry_eq]
  have W0 := zc_go (l := l) (e := e) (below := below) C hj (fun i L S h hp => by obtain ⟨n, hp⟩ := hp; exact zc_loop C hj f I (hs hok hM) n i L S h hp) (h0 hok hM) s.heap [] _ ⟨⟨hP, hD, va_S.rf⟩, ⟨⟨_, hl, fun i v hv => by have := (zx_en_in (ad := ad) As (zx_ml j) 0 i v hv).1; rwa [Nat.zero_add] at this⟩, fun i v hv => hok v (zx_en_in (ad := ad) As (zx_ml j) 0 i v hv).2⟩, ⟨(fun v hv => by cases hv), hM⟩⟩
  rw [hj2.1.2] at W0
  exact W0
/-- no loop in it -/
theorem zx_met0 {j : Nat} {As : List zV} {h : zM} {Q : zQ} (hj : zk_meth j = true) (hrc : zc_rcv j As) (hsz : zx_sz As ≤ zx_ml j) (f : Nat)
    (h0 : zc_okS As → zc_M h → zx_go zR (fun _ => false) (fun _ _ _ _ => False) (zx_cd j) Q f 0 (zx_en As (zx_ml j)) [] h) : zR j As h Q := by
  refine zx_met hj hrc hsz (fun _ => false) f (fun _ _ _ _ _ => False) (fun a b => ?_) (fun _ _ n i L S h _ hf => hf.elim)
  have e : (fun (i : Nat) (L : zL) (S : List zV) (h : zM) => ∃ n : Nat, False) = fun _ _ _ _ => False := by
    funext i L S h
    exact propext ⟨fun ⟨_, z⟩ => z, fun z => z.elim⟩
  rw [e]
  exact h0 a b
