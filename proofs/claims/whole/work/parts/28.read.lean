/-! CONTRACTS: read: class and reference -/
/-- the FAULT of pair j -/
def zrdf (ln len l f : Int) (j : Nat) : Int := if ln = -4 then 1 else if ln = l then (if 0 ≤ f + 2 * (j : Int) ∧ f + 2 * (j : Int) + 1 < len then 0 else 2) else 3
/-- pair j is one that begin takes -/
def zrdac (cl : Int → Int) (f : Int) (j : Nat) : Prop := (0 ≤ cl (f + 2 * (j : Int)) ∧ cl (f + 2 * (j : Int)) < 6) ∧ 0 ≤ cl (f + 2 * (j : Int) + 1) ∧ cl (f + 2 * (j : Int) + 1) ≤ 99
/-- the begins behind k pairs -/
def zrdp (cl : Int → Int) (f : Int) (s : Int → Int) (k : Nat) : Int → Int := zit (fun j s => fun v => if v = cl (f + 2 * (j : Int)) then cl (f + 2 * (j : Int) + 1) else s v) k s
theorem zrdf0 {ln len l f : Int} {j : Nat} (h : zrdf ln len l f j = 0) : ¬ ln = -4 ∧ ln = l ∧ 0 ≤ f + 2 * (j : Int) ∧ f + 2 * (j : Int) + 1 < len := by
  unfold zrdf at h
  split at h
  · omega
  · split at h
    · split at h
      · exact ⟨by assumption, by assumption, by omega, by omega⟩
      · omega
    · omega
theorem zrdf_1 {ln len l f : Int} {j : Nat} (a : ln = -4) : zrdf ln len l f j = 1 := if_pos a
theorem zrdf_3 {ln len l f : Int} {j : Nat} (a : ¬ ln = -4) (b : ¬ ln = l) : zrdf ln len l f j = 3 := by
  unfold zrdf
  rw [if_neg a, if_neg b]
theorem zrdf_2 {ln len l f : Int} {j : Nat} (b : ln = l) (a : ¬ ln = -4) (c : ¬ (0 ≤ f + 2 * (j : Int) ∧ f + 2 * (j : Int) + 1 < len)) : zrdf ln len l f j = 2 := by
  unfold zrdf
  rw [if_neg a, if_pos b, if_neg c]
theorem zrdf_0 {ln len l f : Int} {j : Nat} (b : ln = l) (a : ¬ ln = -4) (c : 0 ≤ f + 2 * (j : Int) ∧ f + 2 * (j : Int) + 1 < len) : zrdf ln len l f j = 0 := by
  unfold zrdf
  rw [if_neg a, if_pos b, if_pos c]
theorem zrdp_s {cl : Int → Int} {f : Int} {s : Int → Int} {k : Nat} {v : Int} : zrdp cl f s (k + 1) v = if v = cl (f + 2 * (k : Int)) then cl (f + 2 * (k : Int) + 1) else zrdp cl f s k v := rfl
theorem zrd_rng {ln len l f : Int} (hf : zc_i f) (hlen : len ≤ 40) {m : Nat} (hm : m ≤ 20) (hj : ∀ j : Nat, j < m → zrdf ln len l f j = 0) : zc_i (f + 2 * (m : Int)) := by
  unfold zc_i at *
  cases m with
  | zero => omega
  | succ m =>
    have := (zrdf0 (hj m (by omega))).2.2
    omega
set_option maxHeartbeats 4000000 in
set_option maxRecDepth 100000 in
/-- C.read -/
theorem s_25 {k l f n : Int} (hk : 0 ≤ k ∧ k < 4) {h : zM} {Q : zQ} (hlen : h (zsb k) 2 ≤ 40) (hb : ¬ ((0 ≤ l ∧ l < 3) ∧ 0 ≤ n ∧ n ≤ 20) → Q (some (.inl (-1))) h) (hq : (0 ≤ l ∧ l < 3) ∧ 0 ≤ n ∧ n ≤ 20 → ∀ (m : Nat) (e : Int) h2, (m : Int) ≤ n → (∀ j : Nat, j < m → zrdf (h (zsb k) 1) (h (zsb k) 2) l f j = 0 ∧ zrdac (h (zsb k + 1)) f j) → ((m : Int) = n ∧ e = 0 ∨ (m : Int) < n ∧ e = zrdf (h (zsb k) 1) (h (zsb k) 2) l f m ∧ ¬ e = 0) → zF (fun r i => Nat.beq r 70 || Nat.beq r 71 || (Nat.beq r 0 && decide (i = 13))) h h2 → h2 0 13 = e → (∀ v, 0 ≤ v → v < 6 → h2 70 v = zrdp (h (zsb k + 1)) f (h 70) m v) → Q (some (.inl m)) h2) (hr : (0 ≤ l ∧ l < 3) ∧ 0 ≤ n ∧ n ≤ 20 → ∀ (m : Nat) h2, (m : Int) < n → (∀ j : Nat, j < m → zrdf (h (zsb k) 1) (h (zsb k) 2) l f j = 0 ∧ zrdac (h (zsb k + 1)) f j) → zrdf (h (zsb k) 1) (h (zsb k) 2) l f m = 0 → ¬ zrdac (h (zsb k + 1)) f m → zF (fun r _ => Nat.beq r 71) h h2 → Q (some (.inl (-20 - (m : Int)))) h2) : zR 25 [.inr (.inr 0), .inl k, .inl l, .inl f, .inl n] h Q := by
  have l70 : zx_ln 70 = (6 : Int) := rfl
  have l71 : zx_ln 71 = (6 : Int) := rfl
  have l72 : zx_ln 72 = (4 : Int) := rfl
  obtain ⟨K, hK⟩ : ∃ K, K = k := ⟨_, rfl⟩
  rcases (show k = 0 ∨ k = 1 ∨ k = 2 ∨ k = 3 by omega) with rfl | rfl | rfl | rfl
  all_goals
    refine zx_met zk_25 (Or.inr ⟨_, _, rfl, rfl⟩) (Nat.le_of_ble_eq_true rfl) (fun _ => false) 1000 (fun q i L S h2 => i = 32 ∧ S = [] ∧ ((0 ≤ l ∧ l < 3) ∧ 0 ≤ n ∧ n ≤ 20) ∧ ∃ (m : Nat) (fd ix : Int) (a c : Option zV), L = [some (.inr (.inr 0)), some (.inl K), some (.inl l), some (.inl f), some (.inl n), some (.inr (.inr (zsb K))), some (.inl fd), some (.inl (m : Int)), some (.inl ix), a, c] ∧ (m : Int) ≤ n ∧ q = (n - ix).toNat ∧ (∀ j : Nat, j < m → zrdf (h (zsb K) 1) (h (zsb K) 2) l f j = 0 ∧ zrdac (h (zsb K + 1)) f j) ∧ zF (fun r _ => Nat.beq r 71) h h2 ∧ (∀ v, 0 ≤ v → v < 6 → h2 71 v = zrdp (h (zsb K + 1)) f (h 70) m v) ∧ ((fd = 0 ∧ ix = m) ∨ (¬ fd = 0 ∧ fd = zrdf (h (zsb K) 1) (h (zsb K) 2) l f m ∧ ix = m + 1 ∧ (m : Int) < n))) (fun hok hM => ?_) (fun hok hM => ?_)
    · refine s_40 (fun cv => ?_) (fun cv => absurd (by omega) cv)
      refine And.intro (fun c => absurd c (by decide)) (fun _ => ?_)
      refine s_41 (fun cl => ?_) (fun cl => ?_)
      · refine And.intro (fun c => absurd c (by decide)) (fun _ => ?_)
        constructor
        · intro c1
          exact hb (by omega)
        · intro c1
          constructor
          · intro c2
            exact hb (by omega)
          · intro c2
            refine And.intro (by omega) ?_
            refine And.intro (⟨rfl, rfl, by decide, by decide, by decide +kernel, by decide +kernel, by decide +kernel⟩) ?_
            subst hK
            refine ⟨(n - 0).toNat, rfl, rfl, by omega, 0, 0, 0, none, none, rfl, by omega, rfl, fun j hj => by omega, zF.rf.cp fun _ => rfl, fun v a b => ?_, Or.inl ⟨rfl, rfl⟩⟩
            simp [zx_cp, a, b, zrdp, zit]
      · refine And.intro (fun _ => ?_) (fun c => absurd (by decide) c)
        exact hb (by omega)
    · have eK : ∀ (h2 : zM), zF (fun r _ => Nat.beq r 71) h h2 → ∀ i, h2 (zsb K) i = h (zsb K) i ∧ h2 (zsb K + 1) i = h (zsb K + 1) i := by
        subst hK
        exact fun h2 hF i => ⟨hF _ i rfl, hF _ i rfl⟩
      subst hK
      rintro q i L S h2 hM2 ⟨rfl, rfl, hc, m, fd, ix, a, c, rfl, hm, hq0, hj, hF, hd, hcase⟩
      have hfi : zc_i f := hok (.inl f) (by simp)
      have hfm := zrd_rng hfi hlen (by omega) (fun j a => (hj j a).1)
      unfold zc_i at hfm hfi
      have eN := (eK h2 hF 1).1
      have eL := (eK h2 hF 2).1
      have eC := fun i => (eK h2 hF i).2
      constructor
      · intro c3
        constructor
        · intro c4
          have hix : ix = (m : Int) := by omega
          subst hix
          refine And.intro (by omega) ?_
          refine And.intro (by omega) ?_
          refine s_186w (by first | exact Or.inl rfl | exact Or.inr (Or.inl rfl) | exact Or.inr (Or.inr (Or.inl rfl)) | exact Or.inr (Or.inr (Or.inr rfl))) (by rw [eL]; exact hlen) (fun d1 d2 => ?_) (fun d1 => ?_) (fun d1 d2 d3 => ?_) (fun d1 d2 d3 => ?_)
          · refine And.intro (fun c => absurd c (by decide)) (fun _ => ?_)
            refine And.intro (by omega) ?_
            first
            | exact ⟨(n - ((m : Int) + 1)).toNat, by omega, rfl, rfl, hc, m, 1, (m : Int) + 1, _, _, rfl, hm, rfl, hj, hF, hd, Or.inr ⟨by decide, (zrdf_1 (eN.symm.trans d1)).symm, rfl, by omega⟩⟩
            | exact ⟨(n - ((m : Int) + 1)).toNat, by omega, rfl, rfl, hc, m, 3, (m : Int) + 1, _, _, rfl, hm, rfl, hj, hF, hd, Or.inr ⟨by decide, (zrdf_3 (fun z => d1 (eN.trans z)) (fun z => d2 (eN.trans z))).symm, rfl, by omega⟩⟩
            | exact ⟨(n - ((m : Int) + 1)).toNat, by omega, rfl, rfl, hc, m, 2, (m : Int) + 1, _, _, rfl, hm, rfl, hj, hF, hd, Or.inr ⟨by decide, (zrdf_2 (eN.symm.trans d1) (fun z => d2 (eN.trans z)) (fun z => d3 (by rw [eL]; exact z))).symm, rfl, by omega⟩⟩
            | (have ok0 := zrdf_0 (f := f) (j := m) (eN.symm.trans d1) (fun z => d2 (eN.trans z)) (by rw [eL] at d3; exact d3)
               rw [eC, eC] at cv
               refine ⟨(n - ((m : Int) + 1)).toNat, by omega, rfl, rfl, hc, m + 1, 0, (m : Int) + 1, _, _, rfl, by omega, rfl, fun j hjm => ?_, hF.st rfl, fun v a b => ?_, Or.inl ⟨rfl, rfl⟩⟩
               · by_cases hj2 : j < m
                 · exact hj j hj2
                 · have : j = m := by omega
                   subst this
                   exact ⟨ok0, cv⟩
               · rw [zrdp_s, ← eC, ← eC]
                 split
                 · next hv => rw [hv]; exact zst_eq _ _ _ _
                 · next hv => exact (zst_ne hv).trans (hd v a b))
          · refine And.intro (fun c => absurd c (by decide)) (fun _ => ?_)
            refine And.intro (by omega) ?_
            first
            | exact ⟨(n - ((m : Int) + 1)).toNat, by omega, rfl, rfl, hc, m, 1, (m : Int) + 1, _, _, rfl, hm, rfl, hj, hF, hd, Or.inr ⟨by decide, (zrdf_1 (eN.symm.trans d1)).symm, rfl, by omega⟩⟩
            | exact ⟨(n - ((m : Int) + 1)).toNat, by omega, rfl, rfl, hc, m, 3, (m : Int) + 1, _, _, rfl, hm, rfl, hj, hF, hd, Or.inr ⟨by decide, (zrdf_3 (fun z => d1 (eN.trans z)) (fun z => d2 (eN.trans z))).symm, rfl, by omega⟩⟩
            | exact ⟨(n - ((m : Int) + 1)).toNat, by omega, rfl, rfl, hc, m, 2, (m : Int) + 1, _, _, rfl, hm, rfl, hj, hF, hd, Or.inr ⟨by decide, (zrdf_2 (eN.symm.trans d1) (fun z => d2 (eN.trans z)) (fun z => d3 (by rw [eL]; exact z))).symm, rfl, by omega⟩⟩
            | (have ok0 := zrdf_0 (f := f) (j := m) (eN.symm.trans d1) (fun z => d2 (eN.trans z)) (by rw [eL] at d3; exact d3)
               rw [eC, eC] at cv
               refine ⟨(n - ((m : Int) + 1)).toNat, by omega, rfl, rfl, hc, m + 1, 0, (m : Int) + 1, _, _, rfl, by omega, rfl, fun j hjm => ?_, hF.st rfl, fun v a b => ?_, Or.inl ⟨rfl, rfl⟩⟩
               · by_cases hj2 : j < m
                 · exact hj j hj2
                 · have : j = m := by omega
                   subst this
                   exact ⟨ok0, cv⟩
               · rw [zrdp_s, ← eC, ← eC]
                 split
                 · next hv => rw [hv]; exact zst_eq _ _ _ _
                 · next hv => exact (zst_ne hv).trans (hd v a b))
          · refine And.intro (fun c => absurd c (by decide)) (fun _ => ?_)
            refine And.intro (by omega) ?_
            first
            | exact ⟨(n - ((m : Int) + 1)).toNat, by omega, rfl, rfl, hc, m, 1, (m : Int) + 1, _, _, rfl, hm, rfl, hj, hF, hd, Or.inr ⟨by decide, (zrdf_1 (eN.symm.trans d1)).symm, rfl, by omega⟩⟩
            | exact ⟨(n - ((m : Int) + 1)).toNat, by omega, rfl, rfl, hc, m, 3, (m : Int) + 1, _, _, rfl, hm, rfl, hj, hF, hd, Or.inr ⟨by decide, (zrdf_3 (fun z => d1 (eN.trans z)) (fun z => d2 (eN.trans z))).symm, rfl, by omega⟩⟩
            | exact ⟨(n - ((m : Int) + 1)).toNat, by omega, rfl, rfl, hc, m, 2, (m : Int) + 1, _, _, rfl, hm, rfl, hj, hF, hd, Or.inr ⟨by decide, (zrdf_2 (eN.symm.trans d1) (fun z => d2 (eN.trans z)) (fun z => d3 (by rw [eL]; exact z))).symm, rfl, by omega⟩⟩
            | (have ok0 := zrdf_0 (f := f) (j := m) (eN.symm.trans d1) (fun z => d2 (eN.trans z)) (by rw [eL] at d3; exact d3)
               rw [eC, eC] at cv
               refine ⟨(n - ((m : Int) + 1)).toNat, by omega, rfl, rfl, hc, m + 1, 0, (m : Int) + 1, _, _, rfl, by omega, rfl, fun j hjm => ?_, hF.st rfl, fun v a b => ?_, Or.inl ⟨rfl, rfl⟩⟩
               · by_cases hj2 : j < m
                 · exact hj j hj2
                 · have : j = m := by omega
                   subst this
                   exact ⟨ok0, cv⟩
               · rw [zrdp_s, ← eC, ← eC]
                 split
                 · next hv => rw [hv]; exact zst_eq _ _ _ _
                 · next hv => exact (zst_ne hv).trans (hd v a b))
          · refine And.intro (fun _ => ?_) (fun c => absurd (by decide) c)
            refine And.intro (by omega) ?_
            refine And.intro (by omega) ?_
            refine s_187 (by first | exact Or.inl rfl | exact Or.inr (Or.inl rfl) | exact Or.inr (Or.inr (Or.inl rfl)) | exact Or.inr (Or.inr (Or.inr rfl))) (by rw [eL]; exact hlen) (fun cw => ?_) (fun cw => absurd ⟨d2, by omega⟩ cw)
            refine And.intro (by omega) ?_
            refine And.intro (by omega) ?_
            refine And.intro (by omega) ?_
            refine s_187 (by first | exact Or.inl rfl | exact Or.inr (Or.inl rfl) | exact Or.inr (Or.inr (Or.inl rfl)) | exact Or.inr (Or.inr (Or.inr rfl))) (by rw [eL]; exact hlen) (fun cw => ?_) (fun cw => absurd ⟨d2, by omega⟩ cw)
            refine s_39 (fun cv => ?_) (fun cv => ?_)
            · refine And.intro (fun c => absurd c (by decide)) (fun _ => ?_)
              refine And.intro (by omega) ?_
              refine And.intro (by omega) ?_
              refine And.intro (by omega) ?_
              first
              | exact ⟨(n - ((m : Int) + 1)).toNat, by omega, rfl, rfl, hc, m, 1, (m : Int) + 1, _, _, rfl, hm, rfl, hj, hF, hd, Or.inr ⟨by decide, (zrdf_1 (eN.symm.trans d1)).symm, rfl, by omega⟩⟩
              | exact ⟨(n - ((m : Int) + 1)).toNat, by omega, rfl, rfl, hc, m, 3, (m : Int) + 1, _, _, rfl, hm, rfl, hj, hF, hd, Or.inr ⟨by decide, (zrdf_3 (fun z => d1 (eN.trans z)) (fun z => d2 (eN.trans z))).symm, rfl, by omega⟩⟩
              | exact ⟨(n - ((m : Int) + 1)).toNat, by omega, rfl, rfl, hc, m, 2, (m : Int) + 1, _, _, rfl, hm, rfl, hj, hF, hd, Or.inr ⟨by decide, (zrdf_2 (eN.symm.trans d1) (fun z => d2 (eN.trans z)) (fun z => d3 (by rw [eL]; exact z))).symm, rfl, by omega⟩⟩
              | (have ok0 := zrdf_0 (f := f) (j := m) (eN.symm.trans d1) (fun z => d2 (eN.trans z)) (by rw [eL] at d3; exact d3)
                 rw [eC, eC] at cv
                 refine ⟨(n - ((m : Int) + 1)).toNat, by omega, rfl, rfl, hc, m + 1, 0, (m : Int) + 1, _, _, rfl, by omega, rfl, fun j hjm => ?_, hF.st rfl, fun v a b => ?_, Or.inl ⟨rfl, rfl⟩⟩
                 · by_cases hj2 : j < m
                   · exact hj j hj2
                   · have : j = m := by omega
                     subst this
                     exact ⟨ok0, cv⟩
                 · rw [zrdp_s, ← eC, ← eC]
                   split
                   · next hv => rw [hv]; exact zst_eq _ _ _ _
                   · next hv => exact (zst_ne hv).trans (hd v a b))
            · refine And.intro (fun _ => ?_) (fun c => absurd (by decide) c)
              refine And.intro (by omega) ?_
              have ok0 := zrdf_0 (f := f) (j := m) (eN.symm.trans d1) (fun z => d2 (eN.trans z)) (by rw [eL] at d3; exact d3)
              rw [eC, eC] at cv
              exact hr hc m h2 (by omega) hj ok0 cv hF
        · intro c4
          refine And.intro (⟨rfl, rfl, by decide, by decide, by decide +kernel, by decide +kernel, by decide +kernel⟩) ?_
          refine hq hc m fd _ hm hj (by omega) (((hF.mono (fun r k hf => ?_)).cp fun _ => rfl).st rfl) rfl (fun v a b => ?_)
          · simp only [Bool.or_eq_false_iff] at hf ⊢
            exact hf.1.2
          · rw [zst_nr (by decide)]
            simp [zx_cp, a, b]
            exact hd v a b
      · intro c3
        refine And.intro (⟨rfl, rfl, by decide, by decide, by decide +kernel, by decide +kernel, by decide +kernel⟩) ?_
        refine hq hc m fd _ hm hj (by omega) (((hF.mono (fun r k hf => ?_)).cp fun _ => rfl).st rfl) rfl (fun v a b => ?_)
        · simp only [Bool.or_eq_false_iff] at hf ⊢
          exact hf.1.2
        · rw [zst_nr (by decide)]
          simp [zx_cp, a, b]
          exact hd v a b
