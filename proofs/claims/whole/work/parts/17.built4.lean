/-! the builder's whole run -/
section ZD
variable {j n0 : Nat} {p : Program} {l : Launch} {e : Env} {s : State} {m : MethodId} {args : Array Value} {below : List Frame} {meth : Method} {c : Code} {D : va_G} {ad0 : Nat → Nat} {cA : Nat → ClassId} {A : Nat → Prop} {i : Nat} {L : zL} {S : List zV} {X Y : zbX} {cu su : Nat} {K : Nat → zL → List zV → zbX → Nat → Nat → Option zbX} {call : Nat → List zV → zbX → Option zbX}
theorem zd_put {n pc a b : Nat} {d : Int} {ts : List (Int × Nat)} {v : zV} {r : Nat} {S2 : List zV} {fs : List (Option zV)} {w : List (Nat × Int)} (C : zb_C j p s m args meth c D cA A) (hd : decode (zb_by j) pc = .ok (.putfield n, 3)) (hn : zb_pc j (i + 1) = pc + 3) (hf : zq_f j n a b d ts true = true) (hX : X[r]? = some (0, a, fs, w)) (hb : b < fs.length) (htok : zb_tok d v = true) (hk : K (i + 1) L S2 (X.set r (0, a, fs.set b (some v), w)) cu su = some Y) (hc : cu ≤ zb_mc j) (hs : su ≤ zb_ms j) (hK : ∀ i2 L2 S2 X2 cu2 su2, K i2 L2 S2 X2 cu2 su2 = some Y → zb_W j n0 ad0 p l e s m args below meth c D cA A Y i2 L2 S2 X2 cu2 su2) {ad : Nat → Nat} {H : Heap} {locs : List Loc} {ls : Array Slot} (I : zb_I j n0 ad0 s D ad cA A L (v :: .inr (.inr r) :: S2) X H locs ls) : W p l e (zb_rm j) s m args below meth c H locs cu su (MQ below (zb_Qc n0 D ad0 cA A Y) args s (zb_mc j) (zb_ms j) A) (F0 m pc ls (zc_v ad v :: Value.ref (ad r) :: S2.map (zc_v ad))) := by
  obtain ⟨q, CC, T, N, hcl, hbN, hw, hp⟩ := zq_f_inv hf
  obtain ⟨hfin, ty, hty, hd3⟩ := hp rfl
  obtain ⟨hin, ⟨ty0, hty0⟩, hnm⟩ := zc_cls hcl
  have hcell := zb_ws_at (ad := ad) (cA := cA) X 0 r hX
  rw [Nat.zero_add, zb_el0] at hcell
  have hok : zb_okC X.length (0, a, fs.set b (some v), w) := by
    intro u hu
    rcases List.mem_or_eq_of_mem_set hu with hu | hu
    · exact I.2.2.2.1 _ (List.mem_of_getElem? hX) u hu
    · cases hu
      exact I.top
  have hfit : narrow ty (zc_v ad v) = zc_v ad v ∧ fits ty (zc_v ad v) = true := by
    rcases zb_tok_inv htok with ⟨x, rfl, h0⟩ | ⟨q, rfl, h0⟩
    · rcases h0 with h0 | ⟨h0, h1⟩
      · rcases hd3 with ⟨_, rfl⟩ | ⟨h2, _⟩ | ⟨h2, _⟩
        · exact ⟨rfl, rfl⟩
        · omega
        · omega
      · rcases hd3 with ⟨h2, _⟩ | ⟨_, rfl⟩ | ⟨h2, _⟩
        · omega
        · rcases h1 with rfl | rfl
          · exact ⟨show narrow .boolean (.int (Int32.ofInt 0)) = .int (Int32.ofInt 0) by decide, show fits .boolean (.int (Int32.ofInt 0)) = true by decide⟩
          · exact ⟨show narrow .boolean (.int (Int32.ofInt 1)) = .int (Int32.ofInt 1) by decide, show fits .boolean (.int (Int32.ofInt 1)) = true by decide⟩
        · omega
    · rcases hd3 with ⟨h2, _⟩ | ⟨h2, _⟩ | ⟨_, h2⟩
      · omega
      · omega
      · cases ty with
        | object nm => exact ⟨rfl, rfl⟩
        | array t => exact ⟨rfl, rfl⟩
        | _ => cases h2
  have fin : ∀ (H1 : Heap) (locs1 : List Loc), va_P D vwCl ((zb_ws ad cA 0 X).set r (ad r, .inr (a, (fs.map (zb_val ad)).set b (zc_v ad v)))) H1 → va_D A ((zb_ws ad cA 0 X).set r (ad r, .inr (a, (fs.map (zb_val ad)).set b (zc_v ad v)))) → va_S A s.heap H1 locs1 → W p l e (zb_rm j) s m args below meth c H1 locs1 cu su (MQ below (zb_Qc n0 D ad0 cA A Y) args s (zb_mc j) (zb_ms j) A) (F0 m (pc + 3) ls (S2.map (zc_v ad))) := by
    intro H1 locs1 hP hD hS
    have ee : (fs.map (zb_val ad)).set b (zc_v ad v) = (fs.set b (some v)).map (zb_val ad) := by rw [List.map_set]; rfl
    rw [ee] at hP hD
    exact zb_next hK hn hk hc hs (zb_setI (cc := (0, a, fs.set b (some v), w)) I.rest.rest hok hP hD hS)
  by_cases hfi : (T b).2.2.2 = false
  · exact va_put (D := D) (ci := a) (v := zc_v ad v) (ty := ty) (C := CC) (T := T) (N := N) C.1 C.2.1 C.2.2.2.2.2.1 hin ty0 hty0 hnm C.2.2.2.2.1 C.2.2.2.2.2.2.2.1 I.1.1 I.1.2.1 I.1.2.2 r hcell hcl b hbN (C.word hw) (fun _ z => z) hfi hty hfit.1 hfit.2 (by rw [List.length_map]; exact hb) hd fin
  · have hft : (T b).2.2.2 = true := by simpa using hfi
    rcases hfin with h | ⟨h1, h2⟩
    · exact absurd h hfi
    · exact va_putF (D := D) (ci := a) (v := zc_v ad v) (ty := ty) (C := CC) (T := T) (N := N) C.1 C.2.1 C.2.2.2.2.2.1 hin ty0 hty0 hnm C.2.2.2.2.1 C.2.2.2.2.2.2.2.1 I.1.1 I.1.2.1 I.1.2.2 r hcell hcl b hbN (C.word hw) (fun _ z => z) hft (C.2.2.2.2.2.2.2.2.2.2.trans h1) h2 hty hfit.1 hfit.2 (by rw [List.length_map]; exact hb) hd fin
set_option maxHeartbeats 4000000 in
theorem zd_step {w : zE} (C : zb_C j p s m args meth c D cA A) (hcall : ∀ a As X Y, call a As X = some Y → zB a As X Y) (he : zq_e j i w = true) (hA : zb_act call j w i L S X cu su K = some Y) (hK : ∀ i2 L2 S2 X2 cu2 su2, K i2 L2 S2 X2 cu2 su2 = some Y → zb_W j n0 ad0 p l e s m args below meth c D cA A Y i2 L2 S2 X2 cu2 su2) : zb_W j n0 ad0 p l e s m args below meth c D cA A Y i L S X cu su := by
  intro hc hs ad H locs ls I
  obtain ⟨pc, ins, len, a, b, d, ts⟩ := w
  cases ins
  case aload_n n =>
    simp only [zq_e, zq_s, zq_d, Bool.and_eq_true, decide_eq_true_eq] at he
    obtain ⟨hpc, ⟨hd, hn⟩, ha⟩ := he
    simp only [zb_act] at hA
    split at hA
    · rename_i r hr
      rw [hpc]
      refine lv_aload_n C.1 C.2.1 hd ha (I.2.1.1.at hr) ?_
      exact zb_next hK hn hA hc hs (I.push (I.2.1.2 _ _ hr))
    · cases hA
  case iload_n n =>
    simp only [zq_e, zq_s, zq_d, Bool.and_eq_true, decide_eq_true_eq] at he
    obtain ⟨hpc, ⟨hd, hn⟩, ha⟩ := he
    simp only [zb_act] at hA
    split at hA
    · rename_i r hr
      rw [hpc]
      refine lv_iload_n C.1 C.2.1 hd ha (I.2.1.1.at hr) ?_
      exact zb_next hK hn hA hc hs (I.push (I.2.1.2 _ _ hr))
    · cases hA
  case iconst n =>
    simp only [zq_e, zq_s, zq_d, zk_ri, Bool.and_eq_true, decide_eq_true_eq] at he
    obtain ⟨hpc, ⟨⟨hd, hn⟩, hv⟩, hr⟩ := he
    rw [hpc]
    refine lv_iconst (v := Int32.ofInt d) C.1 C.2.1 hd hv ?_
    exact zb_next hK hn hA hc hs (I.push (v := .inl d) hr)
  case bipush n =>
    simp only [zq_e, zq_s, zq_d, zk_ri, Bool.and_eq_true, decide_eq_true_eq] at he
    obtain ⟨hpc, ⟨⟨hd, hn⟩, hv⟩, hr⟩ := he
    rw [hpc]
    refine lv_bipush (v := Int32.ofInt d) C.1 C.2.1 hd hv ?_
    exact zb_next hK hn hA hc hs (I.push (v := .inl d) hr)
  case sipush n =>
    simp only [zq_e, zq_s, zq_d, zk_ri, Bool.and_eq_true, decide_eq_true_eq] at he
    obtain ⟨hpc, ⟨⟨hd, hn⟩, hv⟩, hr⟩ := he
    rw [hpc]
    refine lv_sipush (v := Int32.ofInt d) C.1 C.2.1 hd hv ?_
    exact zb_next hK hn hA hc hs (I.push (v := .inl d) hr)
  case dup =>
    simp only [zq_e, zq_s, zq_d, Bool.and_eq_true, decide_eq_true_eq] at he
    obtain ⟨hpc, hd, hn⟩ := he
    simp only [zb_act] at hA
    split at hA
    · rw [hpc]
      refine lv_dup C.1 C.2.1 hd rfl ?_
      exact zb_next hK hn hA hc hs (I.push I.top)
    · cases hA
  case imul =>
    simp only [zq_e, zq_s, zq_d, Bool.and_eq_true, decide_eq_true_eq] at he
    obtain ⟨hpc, hd, hn⟩ := he
    simp only [zb_act] at hA
    split at hA
    · rename_i y x S2
      split at hA
      · rename_i hr
        rw [hpc]
        have ee : Int32.ofInt (x * y) = Int32.ofInt x * Int32.ofInt y := Int32.ofInt_mul x y
        refine lv_imul C.1 C.2.1 hd ?_
        rw [← ee]
        exact zb_next hK hn hA hc hs (I.rest.rest.push (v := .inl (x * y)) hr)
      · cases hA
    · cases hA
  case istore_n n =>
    simp only [zq_e, zq_s, zq_d, Bool.and_eq_true, decide_eq_true_eq] at he
    obtain ⟨hpc, ⟨⟨hd, hn⟩, ha⟩, hl⟩ := he
    simp only [zb_act] at hA
    split at hA
    · rename_i x S2
      rw [hpc]
      obtain ⟨lst, g1, g2⟩ := I.2.1.1
      refine lv_istore_n C.1 C.2.1 hd ha g1 hl rfl (fun ls2 g3 => ?_)
      exact zb_next hK hn hA hc hs ⟨I.1, ⟨⟨_, g3, zc_se_in g2 a (.inl x)⟩, zb_se_ok I.2.1.2 I.top⟩, I.rest.2.2⟩
    · cases hA
  case iinc n v =>
    simp only [zq_e, zq_s, zq_d, Bool.and_eq_true, decide_eq_true_eq] at he
    obtain ⟨hpc, ⟨⟨⟨hd, hn⟩, ha⟩, hv⟩, hl⟩ := he
    simp only [zb_act] at hA
    split at hA
    · rename_i x hx
      split at hA
      · rename_i hr
        rw [hpc]
        subst ha
        subst hv
        obtain ⟨lst, g1, g2⟩ := I.2.1.1
        obtain ⟨k, hk2⟩ := List.mem_iff_getElem?.mp (g2 _ _ hx)
        refine lv_iinc (v := Int32.ofInt (x + v)) C.1 C.2.1 hd g1 hk2 (Int32.ofInt_add x v).symm hl rfl (fun ls2 g3 => ?_)
        exact zb_next hK hn hA hc hs ⟨I.1, ⟨⟨_, g3, zc_se_in g2 _ (.inl (x + v))⟩, zb_se_ok I.2.1.2 (show zb_ok _ (.inl (x + v)) from hr)⟩, I.2.2⟩
      · cases hA
    · cases hA
  case if_icmp q n =>
    simp only [zq_e, zq_s, zq_d, zq_t, Bool.and_eq_true, decide_eq_true_eq] at he
    obtain ⟨hpc, ⟨⟨hd, hn⟩, ht⟩, -⟩ := he
    simp only [zb_act] at hA
    split at hA
    · rename_i y x S2
      have hy : zc_i y := I.top
      have hx : zc_i x := I.rest.top
      rw [hpc]
      refine lv_icmp_ge C.1 C.2.1 hd ht (fun z => ?_) (fun z => ?_)
      · have := (zc_le hy hx).mp z
        rw [if_neg (by omega)] at hA
        exact zb_next hK rfl hA hc hs I.rest.rest
      · have : ¬ y ≤ x := fun q => z ((zc_le hy hx).mpr q)
        rw [if_pos (by omega)] at hA
        exact zb_next hK hn hA hc hs I.rest.rest
    · cases hA
  case goto n =>
    simp only [zq_e, zq_d, zq_t, Bool.and_eq_true, decide_eq_true_eq] at he
    obtain ⟨hpc, hd, ht⟩ := he
    rw [hpc]
    refine lv_goto C.1 C.2.1 hd ht ?_
    exact zb_next hK rfl hA hc hs I
  case new n =>
    simp only [zq_e, zq_s, zq_d, Bool.and_eq_true, decide_eq_true_eq] at he
    obtain ⟨hpc, ⟨hd, hn⟩, hts⟩ := he
    rw [hpc]
    exact zd_new C hd hn hts hA hK I
  case newarray t =>
    simp only [zq_e, zq_s, zq_d, Bool.and_eq_true, decide_eq_true_eq] at he
    obtain ⟨hpc, ⟨hd, hn⟩, hts⟩ := he
    simp only [zb_act] at hA
    split at hA
    · rw [hpc]
      exact zd_newa C hd hn (zq_na_inv hts) hA hK I
    · cases hA
  case anewarray n =>
    simp only [zq_e, zq_s, zq_d, Bool.and_eq_true, decide_eq_true_eq] at he
    obtain ⟨hpc, ⟨hd, hn⟩, hts⟩ := he
    simp only [zb_act] at hA
    split at hA
    · rw [hpc]
      exact zd_anew C hd hn hts hA hK I
    · cases hA
  case getfield n =>
    simp only [zq_e, zq_s, zq_d, Bool.and_eq_true, decide_eq_true_eq] at he
    obtain ⟨hpc, ⟨hd, hn⟩, hf⟩ := he
    simp only [zb_act] at hA
    split at hA
    case h_2 => cases hA
    rename_i r S2
    split at hA
    case h_2 => cases hA
    rename_i cc fs w2 hX
    split at hA
    case isFalse => cases hA
    rename_i hca
    subst hca
    split at hA
    case h_2 => cases hA
    rename_i v hv
    obtain ⟨q, CC, T, N, hcl, hbN, hw, -⟩ := zq_f_inv hf
    obtain ⟨hin, -, -⟩ := zc_cls hcl
    have hcell := zb_ws_at (ad := ad) (cA := cA) X 0 r hX
    rw [Nat.zero_add, zb_el0] at hcell
    rw [hpc]
    refine va_get (D := D) (ci := cc) (C := CC) (T := T) (N := N) (v := zc_v ad v) C.1 C.2.1 C.2.2.2.2.2.1 hin C.2.2.2.2.1 C.2.2.2.2.2.2.2.1 I.1.1 r hcell hcl b hbN (C.word hw) (fun _ z => z) (by rw [List.getElem?_map, hv]; rfl) hd ?_
    exact zb_next hK hn hA hc hs (I.rest.push (I.2.2.2.1 _ (List.mem_of_getElem? hX) v (List.mem_of_getElem? hv)))
  case putfield n =>
    simp only [zq_e, zq_s, zq_d, Bool.and_eq_true, decide_eq_true_eq] at he
    obtain ⟨hpc, ⟨hd, hn⟩, hf⟩ := he
    simp only [zb_act] at hA
    split at hA
    case h_2 => cases hA
    rename_i v r S2
    split at hA
    case h_2 => cases hA
    rename_i cc fs w2 hX
    split at hA
    case isFalse => cases hA
    rename_i hcnd
    obtain ⟨hca, hb, htok⟩ := hcnd
    subst hca
    rw [hpc]
    exact zd_put C hd hn hf hX hb htok hA hc hs hK I
  case iastore =>
    simp only [zq_e, zq_s, zq_d, Bool.and_eq_true, decide_eq_true_eq] at he
    obtain ⟨hpc, hd, hn⟩ := he
    simp only [zb_act] at hA
    split at hA
    case h_2 => cases hA
    rename_i v k r S2
    split at hA
    case h_2 => cases hA
    rename_i nn fs w2 hX
    split at hA
    case isFalse => cases hA
    rename_i hcnd
    have hk : zc_i k := I.rest.top
    have hcell := zb_ws_at (ad := ad) (cA := cA) X 0 r hX
    rw [Nat.zero_add, zb_el1] at hcell
    rw [hpc]
    refine va_iast C.1 C.2.1 C.2.2.2.2.2.2.2.1 I.1.1 I.1.2.1 I.1.2.2 r 1 hcell rfl (zc_in hk hcnd.1 hcnd.2) hd (fun H1 locs1 hP hD hS => ?_)
    rw [zc_cl hk, zb_upd] at hP hD
    exact zb_next hK hn hA hc hs (zb_setI (cc := (1, nn, fs, (k.toNat, v) :: w2)) I.rest.rest.rest (fun u hu => I.2.2.2.1 _ (List.mem_of_getElem? hX) u hu) hP hD hS)
  case sastore =>
    simp only [zq_e, zq_s, zq_d, Bool.and_eq_true, decide_eq_true_eq] at he
    obtain ⟨hpc, hd, hn⟩ := he
    simp only [zb_act] at hA
    split at hA
    case h_2 => cases hA
    rename_i v k r S2
    split at hA
    case h_2 => cases hA
    rename_i nn fs w2 hX
    split at hA
    case isFalse => cases hA
    rename_i hcnd
    have hk : zc_i k := I.rest.top
    have hcell := zb_ws_at (ad := ad) (cA := cA) X 0 r hX
    rw [Nat.zero_add, zb_el3] at hcell
    rw [hpc]
    refine va_zast C.1 C.2.1 C.2.2.2.2.2.2.2.1 I.1.1 I.1.2.1 I.1.2.2 r 3 hcell rfl (zc_in hk hcnd.1.1 hcnd.1.2) hd (fun H1 locs1 hP hD hS => ?_)
    rw [zc_z_nar hcnd.2, zc_cl hk, zb_upd] at hP hD
    exact zb_next hK hn hA hc hs (zb_setI (cc := (3, nn, fs, (k.toNat, v) :: w2)) I.rest.rest.rest (fun u hu => I.2.2.2.1 _ (List.mem_of_getElem? hX) u hu) hP hD hS)
  case aastore =>
    simp only [zq_e, zq_s, zq_d, Bool.and_eq_true, decide_eq_true_eq] at he
    obtain ⟨hpc, hd, hn⟩ := he
    simp only [zb_act] at hA
    split at hA
    case h_2 => cases hA
    rename_i q k r S2
    split at hA
    case h_2 => cases hA
    rename_i t nn fs w2 c2 fs2 w3 hX hX2
    split at hA
    case isFalse => cases hA
    rename_i hcnd
    obtain ⟨htc, ⟨k0, k1⟩, hlen⟩ := hcnd
    have hk : zc_i k := I.rest.top
    have hcell := zb_ws_at (ad := ad) (cA := cA) X 0 r hX
    have hcell2 := zb_ws_at (ad := ad) (cA := cA) X 0 q hX2
    rw [Nat.zero_add] at hcell hcell2
    rw [zb_el0] at hcell2
    have hok : zb_okC X.length (t, nn, fs.set k.toNat (some (.inr (.inr q))), w2) := by
      intro u hu
      rcases List.mem_or_eq_of_mem_set hu with hu | hu
      · exact I.2.2.2.1 _ (List.mem_of_getElem? hX) u hu
      · cases hu
        exact I.top
    rw [hpc]
    have hkl : k.toNat < fs.length := by omega
    rcases htc with ⟨rfl, rfl⟩ | ⟨rfl, rfl⟩
    · refine va_astq C.1 C.2.1 C.2.2.2.2.2.2.2.1 I.1.1 I.1.2.1 I.1.2.2 r 4 q 3 (r := (RX3, TX3, 3)) hcell rfl hcell2 rfl (zc_in hk k0 k1) hd (fun H1 locs1 hP hD hS => ?_)
      rw [zc_cl hk, zb_refs hkl] at hP hD
      exact zb_next hK hn hA hc hs (zb_setI (cc := (4, nn, fs.set k.toNat (some (.inr (.inr q))), w2)) I.rest.rest.rest hok hP hD hS)
    · refine va_astq C.1 C.2.1 C.2.2.2.2.2.2.2.1 I.1.1 I.1.2.1 I.1.2.2 r 5 q 6 (r := (RX6, TX6, 3)) hcell rfl hcell2 rfl (zc_in hk k0 k1) hd (fun H1 locs1 hP hD hS => ?_)
      rw [zc_cl hk, zb_refs hkl] at hP hD
      exact zb_next hK hn hA hc hs (zb_setI (cc := (5, nn, fs.set k.toNat (some (.inr (.inr q))), w2)) I.rest.rest.rest hok hP hD hS)
  case invokespecial n =>
    simp only [zq_e, zq_s, zq_d, Bool.and_eq_true, decide_eq_true_eq] at he
    obtain ⟨hpc, ⟨hd, hn⟩, hx⟩ := he
    simp only [zb_act] at hA
    by_cases h99 : a = 99
    · rw [if_pos h99] at hA hx
      simp only [Bool.and_eq_true, decide_eq_true_eq] at hx
      obtain ⟨⟨hx1, hx2⟩, hx3⟩ := hx
      split at hA
      case h_2 => cases hA
      rename_i r
      split at hx1
      case h_2 => cases hx1
      have hcode : Cond.code Lib.objectInit ⟨#[0xb1]⟩ 1 none ∈ lw_tbl ∧ Cond.instanceMethod Lib.objectInit ∈ lw_tbl := by decide +kernel
      rw [hpc]
      have htb := C.2.2.2.2.2.1
      refine W.objInit (g := F0 m pc ls [Value.ref (ad r)]) (a := ad r) (rest := []) C.1 C.2.1 C.2.2.2.2.1 (htb _ (zk_w_in hx1)) (htb _ (zc_tbI hcode.2 rfl)) (htb _ (zc_tbI hcode.1 rfl)) rfl (I.2.1.1.size.trans C.2.2.2.1.symm) rfl hd hx2 (by show 2 * 0 + 0 + 12 ≤ _; omega) ?_
      exact zb_next hK hn hA hc hs I.rest
    · rw [if_neg h99] at hA hx
      simp only [Bool.and_eq_true, decide_eq_true_eq] at hx
      obtain ⟨⟨⟨hx1, hx2⟩, hx3⟩, hx4⟩ := hx
      rw [hpc]
      exact zd_inv true C hcall hd hn hx1 hx2 (fun _ => hx4) (fun z => by cases z) hA hK I
  case invokevirtual n =>
    simp only [zq_e, zq_s, zq_d, Bool.and_eq_true, decide_eq_true_eq] at he
    obtain ⟨hpc, ⟨⟨⟨⟨⟨⟨hd, hn⟩, hx1⟩, hx2⟩, hx3⟩, hx4⟩, hx5⟩, hx6⟩ := he
    rw [hpc]
    exact zd_inv false C hcall hd hn hx1 hx2 (fun z => by cases z) (fun _ => ⟨zk_w_in hx6, hx4⟩) hA hK I
  case return_ =>
    simp only [zq_e, zq_d, Bool.and_eq_true, decide_eq_true_eq] at he
    obtain ⟨hpc, hd⟩ := he
    simp only [zb_act] at hA
    split at hA
    case h_2 => cases hA
    cases hA
    rw [hpc]
    refine W.widen (k := zb_mc j) (n := zb_ms j) hc hs ?_
    exact W.vret C.1 C.2.1 C.2.2.1 (fun t ht hW => ⟨⟨rfl, ad, I.2.2.2.2.2, I.2.2.2.1, I.2.2.2.2.1, by rw [ht]; exact I.1.1, va_K.moved hW.alike C.2.2.2.2.2.2.2.1, I.1.2.1⟩, I.1.2.2.F ht⟩) I.1.2.2.2.2 hd C.2.2.2.2.2.2.1
  all_goals cases hA
end ZD
