/-! CONTRACTS: the reference's read -/
theorem zrdp_nn {cl : Int → Int} {f : Int} {s : Int → Int} (hs : ∀ v, 0 ≤ v → v < 6 → 0 ≤ s v) : ∀ m : Nat, (∀ j : Nat, j < m → zrdac cl f j) → ∀ v, 0 ≤ v → v < 6 → 0 ≤ zrdp cl f s m v := by
  intro m
  induction m with
  | zero => intro _; exact hs
  | succ m ih =>
    intro hj v a b
    rw [zrdp_s]
    split
    · exact (hj m (by omega)).2.1
    · exact ih (fun j hjm => hj j (by omega)) v a b
set_option maxHeartbeats 4000000 in
set_option maxRecDepth 100000 in
/-- M.setsAside -/
theorem s_128_0 {h : zM} {Q : zQ} (hq : ∀ h2, zF (fun r _ => Nat.beq r 107) h h2 → (∀ v, 0 ≤ v → v < 6 → h2 107 v = h 98 v) → Q none h2) : zR 128 [.inr (.inr 81), .inl 0] h Q := by
  have l98 : zx_ln 98 = (6 : Int) := rfl
  have l107 : zx_ln 107 = (6 : Int) := rfl
  refine zx_met zk_128 (Or.inr ⟨_, _, rfl, rfl⟩) (Nat.le_of_ble_eq_true rfl) (fun _ => false) 1000 (fun m i L S h2 => i = 2 ∧ S = [] ∧ ∃ k : Nat, L = [some (.inr (.inr 81)), some (.inl 0), some (.inl (k : Int))] ∧ k ≤ 6 ∧ m = 6 - k ∧ zF (fun r _ => Nat.beq r 107) h h2 ∧ ∀ v, 0 ≤ v → v < (k : Int) → h2 107 v = h 98 v) (fun hok hM => ?_) (fun hok hM => ?_)
  · exact ⟨6, rfl, rfl, 0, rfl, by omega, rfl, zF.rf, fun v a b => by omega⟩
  · rintro m i L S h2 hM2 ⟨rfl, rfl, k, rfl, hk, hm, hF, e⟩
    constructor
    · intro c1
      refine And.intro (fun c2 => ?_) (fun c2 => absurd (by omega) c2)
      refine And.intro (by omega) ?_
      refine And.intro (by omega) ?_
      refine And.intro (by omega) ?_
      refine ⟨6 - (k + 1), by omega, rfl, rfl, k + 1, rfl, by omega, rfl, hF.st rfl, fun v a b => ?_⟩
      by_cases hv : v = (k : Int)
      · rw [hv]
        exact (zst_eq _ _ _ _).trans (hF 98 _ rfl)
      · rw [zst_ne hv]
        exact e v a (by omega)
    · intro c1
      have hk6 : k = 6 := by omega
      subst hk6
      exact hq h2 hF e
set_option maxHeartbeats 4000000 in
set_option maxRecDepth 100000 in
/-- M.setsAside -/
theorem s_128_1 {h : zM} {Q : zQ} (hq : ∀ h2, zF (fun r _ => Nat.beq r 98) h h2 → (∀ v, 0 ≤ v → v < 6 → h2 98 v = h 107 v) → Q none h2) : zR 128 [.inr (.inr 81), .inl 1] h Q := by
  have l98 : zx_ln 98 = (6 : Int) := rfl
  have l107 : zx_ln 107 = (6 : Int) := rfl
  refine zx_met zk_128 (Or.inr ⟨_, _, rfl, rfl⟩) (Nat.le_of_ble_eq_true rfl) (fun _ => false) 1000 (fun m i L S h2 => i = 2 ∧ S = [] ∧ ∃ k : Nat, L = [some (.inr (.inr 81)), some (.inl 1), some (.inl (k : Int))] ∧ k ≤ 6 ∧ m = 6 - k ∧ zF (fun r _ => Nat.beq r 98) h h2 ∧ ∀ v, 0 ≤ v → v < (k : Int) → h2 98 v = h 107 v) (fun hok hM => ?_) (fun hok hM => ?_)
  · exact ⟨6, rfl, rfl, 0, rfl, by omega, rfl, zF.rf, fun v a b => by omega⟩
  · rintro m i L S h2 hM2 ⟨rfl, rfl, k, rfl, hk, hm, hF, e⟩
    constructor
    · intro c1
      refine And.intro (fun c2 => absurd c2 (by omega)) (fun c2 => ?_)
      refine And.intro (by omega) ?_
      refine And.intro (by omega) ?_
      refine And.intro (by omega) ?_
      refine ⟨6 - (k + 1), by omega, rfl, rfl, k + 1, rfl, by omega, rfl, hF.st rfl, fun v a b => ?_⟩
      by_cases hv : v = (k : Int)
      · rw [hv]
        exact (zst_eq _ _ _ _).trans (hF 107 _ rfl)
      · rw [zst_ne hv]
        exact e v a (by omega)
    · intro c1
      have hk6 : k = 6 := by omega
      subst hk6
      exact hq h2 hF e
set_option maxHeartbeats 4000000 in
set_option maxRecDepth 100000 in
/-- M.read -/
theorem s_129 {k l f n : Int} {h : zM} {Q : zQ} (hlen : ∀ k, 0 ≤ k → k < 4 → 0 ≤ h 105 k ∧ h 105 k ≤ 40) (hs : ∀ v, 0 ≤ v → v < 6 → 0 ≤ h 98 v) (hb : ¬ ((0 ≤ k ∧ k < 4) ∧ (0 ≤ l ∧ l < 3) ∧ 0 ≤ n ∧ n ≤ 20) → Q (some (.inl (-1))) h) (hq : (0 ≤ k ∧ k < 4) ∧ (0 ≤ l ∧ l < 3) ∧ 0 ≤ n ∧ n ≤ 20 → ∀ (m : Nat) (e : Int) h2, (m : Int) ≤ n → (∀ j : Nat, j < m → zrdf (h 104 k) (h 105 k) l f j = 0 ∧ zrdac (fun i => h 106 (40 * k + i)) f j) → ((m : Int) = n ∧ e = 0 ∨ (m : Int) < n ∧ e = zrdf (h 104 k) (h 105 k) l f m ∧ ¬ e = 0) → zF (fun r i => Nat.beq r 98 || Nat.beq r 107 || (Nat.beq r 81 && decide (i = 45))) h h2 → h2 81 45 = e → (∀ v, 0 ≤ v → v < 6 → h2 98 v = zrdp (fun i => h 106 (40 * k + i)) f (h 98) m v) → Q (some (.inl m)) h2) (hr : (0 ≤ k ∧ k < 4) ∧ (0 ≤ l ∧ l < 3) ∧ 0 ≤ n ∧ n ≤ 20 → ∀ (m : Nat) h2, (m : Int) < n → (∀ j : Nat, j < m → zrdf (h 104 k) (h 105 k) l f j = 0 ∧ zrdac (fun i => h 106 (40 * k + i)) f j) → zrdf (h 104 k) (h 105 k) l f m = 0 → ¬ zrdac (fun i => h 106 (40 * k + i)) f m → zF (fun r _ => Nat.beq r 98 || Nat.beq r 107) h h2 → (∀ v, 0 ≤ v → v < 6 → h2 98 v = h 98 v) → Q (some (.inl (-20 - (m : Int)))) h2) : zR 129 [.inr (.inr 81), .inl k, .inl l, .inl f, .inl n] h Q := by
  have l98 : zx_ln 98 = (6 : Int) := rfl
  have l104 : zx_ln 104 = (4 : Int) := rfl
  have l105 : zx_ln 105 = (4 : Int) := rfl
  have l106 : zx_ln 106 = (160 : Int) := rfl
  have l107 : zx_ln 107 = (6 : Int) := rfl
  refine zx_met zk_129 (Or.inr ⟨_, _, rfl, rfl⟩) (Nat.le_of_ble_eq_true rfl) (fun _ => false) 1000 (fun q i L S h2 => i = 29 ∧ S = [] ∧ ((0 ≤ k ∧ k < 4) ∧ (0 ≤ l ∧ l < 3) ∧ 0 ≤ n ∧ n ≤ 20) ∧ ∃ (m : Nat) (fd ix : Int) (a b c : Option zV), L = [some (.inr (.inr 81)), some (.inl k), some (.inl l), some (.inl f), some (.inl n), some (.inl fd), some (.inl (m : Int)), some (.inl ix), a, b, c] ∧ (m : Int) ≤ n ∧ q = (2 * n - ix).toNat ∧ (∀ j : Nat, j < m → zrdf (h 104 k) (h 105 k) l f j = 0 ∧ zrdac (fun i => h 106 (40 * k + i)) f j) ∧ zF (fun r _ => Nat.beq r 98 || Nat.beq r 107) h h2 ∧ (∀ v, 0 ≤ v → v < 6 → h2 98 v = zrdp (fun i => h 106 (40 * k + i)) f (h 98) m v) ∧ (∀ v, 0 ≤ v → v < 6 → h2 107 v = h 98 v) ∧ ((fd = 0 ∧ ix = 2 * (m : Int)) ∨ (fd = 0 ∧ ix = 2 * (m : Int) + 1 ∧ 0 ≤ f + 2 * (m : Int) ∧ f + 2 * (m : Int) < h 105 k) ∨ (¬ fd = 0 ∧ fd = zrdf (h 104 k) (h 105 k) l f m ∧ (m : Int) < n ∧ (ix = 2 * (m : Int) + 1 ∨ ix = 2 * (m : Int) + 2)))) (fun hok hM => ?_) (fun hok hM => ?_)
  · refine s_50 (fun cv => ?_) (fun cv => ?_)
    · refine And.intro (fun c => absurd c (by decide)) (fun _ => ?_)
      refine s_50 (fun cv => ?_) (fun cv => ?_)
      · refine And.intro (fun c => absurd c (by decide)) (fun _ => ?_)
        refine s_50 (fun cv => ?_) (fun cv => ?_)
        · refine And.intro (fun c => absurd c (by decide)) (fun _ => ?_)
          refine s_128_0 (fun h3 hF3 eA => ?_)
          exact ⟨(2 * n - 0).toNat, rfl, rfl, by omega, 0, 0, 0, none, none, none, rfl, by omega, rfl, fun j hj => by omega, hF3.mono (fun r k hf => by simp only [Bool.or_eq_false_iff] at hf; exact hf.2), fun v a b => hF3 98 v rfl, eA, Or.inl ⟨rfl, rfl⟩⟩
        · refine And.intro (fun _ => ?_) (fun c => absurd (by decide) c)
          exact hb (by omega)
      · refine And.intro (fun _ => ?_) (fun c => absurd (by decide) c)
        exact hb (by omega)
    · refine And.intro (fun _ => ?_) (fun c => absurd (by decide) c)
      exact hb (by omega)
  · rintro q i L S h2 hM2 ⟨rfl, rfl, hc, m, fd, ix, a, b, c, rfl, hm, hq0, hj, hF, hd, he, hcase⟩
    have hfi : zc_i f := hok (.inl f) (by simp)
    have hlk := hlen k hc.1.1 hc.1.2
    have hfm := zrd_rng hfi hlk.2 (by omega) (fun j a => (hj j a).1)
    unfold zc_i at hfm hfi
    have e4 : ∀ i, h2 104 i = h 104 i := fun i => hF 104 i rfl
    have e5 : ∀ i, h2 105 i = h 105 i := fun i => hF 105 i rfl
    have e6 : ∀ i, h2 106 i = h 106 i := fun i => hF 106 i rfl
    have e5k := e5 k
    have e4k := e4 k
    have eW : zx_wl (f + ix) = f + ix := zc_lo ⟨by omega, by omega⟩
    have hnn := zrdp_nn hs m (fun j a => (hj j a).2)
    refine And.intro (by omega) ?_
    constructor
    · intro c1
      constructor
      · intro c2
        refine And.intro (by omega) ?_
        constructor
        · intro c3
          refine And.intro (fun c => absurd c (by decide)) (fun _ => ?_)
          refine And.intro (by omega) ?_
          first
          | exact ⟨(2 * n - (ix + 1)).toNat, by omega, rfl, rfl, hc, m, 1, ix + 1, _, _, _, rfl, hm, rfl, hj, hF, hd, he, Or.inr (Or.inr ⟨by decide, (zrdf_1 (by omega)).symm, by omega, by omega⟩)⟩
          | exact ⟨(2 * n - (ix + 1)).toNat, by omega, rfl, rfl, hc, m, 3, ix + 1, _, _, _, rfl, hm, rfl, hj, hF, hd, he, Or.inr (Or.inr ⟨by decide, (zrdf_3 (by omega) (by omega)).symm, by omega, by omega⟩)⟩
          | exact ⟨(2 * n - (ix + 1)).toNat, by omega, rfl, rfl, hc, m, 2, ix + 1, _, _, _, rfl, hm, rfl, hj, hF, hd, he, Or.inr (Or.inr ⟨by decide, (zrdf_2 (by omega) (by omega) (by omega)).symm, by omega, by omega⟩)⟩
          | exact ⟨(2 * n - (ix + 1)).toNat, by omega, rfl, rfl, hc, m, 0, ix + 1, _, _, _, rfl, hm, rfl, hj, hF, hd, he, Or.inr (Or.inl ⟨rfl, by omega, by omega, by omega⟩)⟩
          | (have ok0 : zrdf (h 104 k) (h 105 k) l f m = 0 := zrdf_0 (by omega) (by omega) (by omega)
             rw [i1, i2, e6, e6] at cv
             refine ⟨(2 * n - (ix + 1)).toNat, by omega, rfl, rfl, hc, m + 1, 0, ix + 1, _, _, _, rfl, by omega, rfl, fun j hjm => ?_, hF.st rfl, fun v a b => ?_, fun v a b => ?_, Or.inl ⟨rfl, by omega⟩⟩
             · by_cases hj2 : j < m
               · exact hj j hj2
               · have : j = m := by omega
                 subst this
                 exact ⟨ok0, cv⟩
             · rw [zrdp_s, i1, i2, e6, e6]
               split
               · next hv => rw [hv]; exact zst_eq _ _ _ _
               · next hv => exact (zst_ne hv).trans (hd v a b)
             · rw [zst_nr (by decide)]
               exact he v a b)
        · intro c3
          refine And.intro (by omega) ?_
          constructor
          · intro c4
            refine And.intro (by omega) ?_
            refine And.intro (by omega) ?_
            refine s_50 (fun cv => ?_) (fun cv => ?_)
            · refine And.intro (fun c => absurd c (by decide)) (fun _ => ?_)
              refine And.intro (fun _ => ?_) (fun c => absurd (by decide) c)
              refine And.intro (by omega) ?_
              constructor
              · intro c5
                have hix : ix = 2 * (m : Int) + 1 := by omega
                have eV : zx_wr (zx_wl (f + ix)) = f + ix := by
                  rw [eW]
                  exact zc_io ⟨by omega, by omega⟩
                have i1 : 40 * k + zx_wr (zx_wl (f + ix)) - 1 = 40 * k + (f + 2 * (m : Int)) := by omega
                have i2 : 40 * k + zx_wr (zx_wl (f + ix)) = 40 * k + (f + 2 * (m : Int) + 1) := by omega
                refine And.intro (by omega) ?_
                refine And.intro (by omega) ?_
                refine And.intro (by omega) ?_
                refine And.intro (by omega) ?_
                refine And.intro (by omega) ?_
                refine s_106 (fun cv => ?_) (fun cv => ?_)
                · constructor
                  · intro c6
                    refine s_128_1 (fun h3 hF3 eB => ?_)
                    refine And.intro (by omega) ?_
                    first
                    | (have ok0 : zrdf (h 104 k) (h 105 k) l f m = 0 := zrdf_0 (by omega) (by omega) (by omega)
                       rw [i1, i2, e6, e6] at cv
                       exact hr hc m h3 (by omega) hj ok0 cv (hF.tr (hF3.mono (fun r k hf => by simp only [Bool.or_eq_false_iff] at hf; exact hf.1))) (fun v a b => (eB v a b).trans (he v a b)))
                    | (exfalso
                       rw [i1, i2, e6, e6] at cv
                       have := hnn (h 106 (40 * k + (f + 2 * (m : Int)))) cv.1.1 cv.1.2
                       rw [← hd _ cv.1.1 cv.1.2, ← e6, ← i1] at this
                       omega)
                  · intro c6
                    refine And.intro (by omega) ?_
                    refine And.intro (by omega) ?_
                    first
                    | exact ⟨(2 * n - (ix + 1)).toNat, by omega, rfl, rfl, hc, m, 1, ix + 1, _, _, _, rfl, hm, rfl, hj, hF, hd, he, Or.inr (Or.inr ⟨by decide, (zrdf_1 (by omega)).symm, by omega, by omega⟩)⟩
                    | exact ⟨(2 * n - (ix + 1)).toNat, by omega, rfl, rfl, hc, m, 3, ix + 1, _, _, _, rfl, hm, rfl, hj, hF, hd, he, Or.inr (Or.inr ⟨by decide, (zrdf_3 (by omega) (by omega)).symm, by omega, by omega⟩)⟩
                    | exact ⟨(2 * n - (ix + 1)).toNat, by omega, rfl, rfl, hc, m, 2, ix + 1, _, _, _, rfl, hm, rfl, hj, hF, hd, he, Or.inr (Or.inr ⟨by decide, (zrdf_2 (by omega) (by omega) (by omega)).symm, by omega, by omega⟩)⟩
                    | exact ⟨(2 * n - (ix + 1)).toNat, by omega, rfl, rfl, hc, m, 0, ix + 1, _, _, _, rfl, hm, rfl, hj, hF, hd, he, Or.inr (Or.inl ⟨rfl, by omega, by omega, by omega⟩)⟩
                    | (have ok0 : zrdf (h 104 k) (h 105 k) l f m = 0 := zrdf_0 (by omega) (by omega) (by omega)
                       rw [i1, i2, e6, e6] at cv
                       refine ⟨(2 * n - (ix + 1)).toNat, by omega, rfl, rfl, hc, m + 1, 0, ix + 1, _, _, _, rfl, by omega, rfl, fun j hjm => ?_, hF.st rfl, fun v a b => ?_, fun v a b => ?_, Or.inl ⟨rfl, by omega⟩⟩
                       · by_cases hj2 : j < m
                         · exact hj j hj2
                         · have : j = m := by omega
                           subst this
                           exact ⟨ok0, cv⟩
                       · rw [zrdp_s, i1, i2, e6, e6]
                         split
                         · next hv => rw [hv]; exact zst_eq _ _ _ _
                         · next hv => exact (zst_ne hv).trans (hd v a b)
                       · rw [zst_nr (by decide)]
                         exact he v a b)
                · refine And.intro (fun _ => ?_) (fun c => absurd (by decide) c)
                  refine s_128_1 (fun h3 hF3 eB => ?_)
                  refine And.intro (by omega) ?_
                  first
                  | (have ok0 : zrdf (h 104 k) (h 105 k) l f m = 0 := zrdf_0 (by omega) (by omega) (by omega)
                     rw [i1, i2, e6, e6] at cv
                     exact hr hc m h3 (by omega) hj ok0 cv (hF.tr (hF3.mono (fun r k hf => by simp only [Bool.or_eq_false_iff] at hf; exact hf.1))) (fun v a b => (eB v a b).trans (he v a b)))
                  | (exfalso
                     rw [i1, i2, e6, e6] at cv
                     have := hnn (h 106 (40 * k + (f + 2 * (m : Int)))) cv.1.1 cv.1.2
                     rw [← hd _ cv.1.1 cv.1.2, ← e6, ← i1] at this
                     omega)
              · intro c5
                refine And.intro (by omega) ?_
                first
                | exact ⟨(2 * n - (ix + 1)).toNat, by omega, rfl, rfl, hc, m, 1, ix + 1, _, _, _, rfl, hm, rfl, hj, hF, hd, he, Or.inr (Or.inr ⟨by decide, (zrdf_1 (by omega)).symm, by omega, by omega⟩)⟩
                | exact ⟨(2 * n - (ix + 1)).toNat, by omega, rfl, rfl, hc, m, 3, ix + 1, _, _, _, rfl, hm, rfl, hj, hF, hd, he, Or.inr (Or.inr ⟨by decide, (zrdf_3 (by omega) (by omega)).symm, by omega, by omega⟩)⟩
                | exact ⟨(2 * n - (ix + 1)).toNat, by omega, rfl, rfl, hc, m, 2, ix + 1, _, _, _, rfl, hm, rfl, hj, hF, hd, he, Or.inr (Or.inr ⟨by decide, (zrdf_2 (by omega) (by omega) (by omega)).symm, by omega, by omega⟩)⟩
                | exact ⟨(2 * n - (ix + 1)).toNat, by omega, rfl, rfl, hc, m, 0, ix + 1, _, _, _, rfl, hm, rfl, hj, hF, hd, he, Or.inr (Or.inl ⟨rfl, by omega, by omega, by omega⟩)⟩
                | (have ok0 : zrdf (h 104 k) (h 105 k) l f m = 0 := zrdf_0 (by omega) (by omega) (by omega)
                   rw [i1, i2, e6, e6] at cv
                   refine ⟨(2 * n - (ix + 1)).toNat, by omega, rfl, rfl, hc, m + 1, 0, ix + 1, _, _, _, rfl, by omega, rfl, fun j hjm => ?_, hF.st rfl, fun v a b => ?_, fun v a b => ?_, Or.inl ⟨rfl, by omega⟩⟩
                   · by_cases hj2 : j < m
                     · exact hj j hj2
                     · have : j = m := by omega
                       subst this
                       exact ⟨ok0, cv⟩
                   · rw [zrdp_s, i1, i2, e6, e6]
                     split
                     · next hv => rw [hv]; exact zst_eq _ _ _ _
                     · next hv => exact (zst_ne hv).trans (hd v a b)
                   · rw [zst_nr (by decide)]
                     exact he v a b)
            · refine And.intro (fun _ => ?_) (fun c => absurd (by decide) c)
              refine And.intro (fun c => absurd c (by decide)) (fun _ => ?_)
              refine And.intro (by omega) ?_
              first
              | exact ⟨(2 * n - (ix + 1)).toNat, by omega, rfl, rfl, hc, m, 1, ix + 1, _, _, _, rfl, hm, rfl, hj, hF, hd, he, Or.inr (Or.inr ⟨by decide, (zrdf_1 (by omega)).symm, by omega, by omega⟩)⟩
              | exact ⟨(2 * n - (ix + 1)).toNat, by omega, rfl, rfl, hc, m, 3, ix + 1, _, _, _, rfl, hm, rfl, hj, hF, hd, he, Or.inr (Or.inr ⟨by decide, (zrdf_3 (by omega) (by omega)).symm, by omega, by omega⟩)⟩
              | exact ⟨(2 * n - (ix + 1)).toNat, by omega, rfl, rfl, hc, m, 2, ix + 1, _, _, _, rfl, hm, rfl, hj, hF, hd, he, Or.inr (Or.inr ⟨by decide, (zrdf_2 (by omega) (by omega) (by omega)).symm, by omega, by omega⟩)⟩
              | exact ⟨(2 * n - (ix + 1)).toNat, by omega, rfl, rfl, hc, m, 0, ix + 1, _, _, _, rfl, hm, rfl, hj, hF, hd, he, Or.inr (Or.inl ⟨rfl, by omega, by omega, by omega⟩)⟩
              | (have ok0 : zrdf (h 104 k) (h 105 k) l f m = 0 := zrdf_0 (by omega) (by omega) (by omega)
                 rw [i1, i2, e6, e6] at cv
                 refine ⟨(2 * n - (ix + 1)).toNat, by omega, rfl, rfl, hc, m + 1, 0, ix + 1, _, _, _, rfl, by omega, rfl, fun j hjm => ?_, hF.st rfl, fun v a b => ?_, fun v a b => ?_, Or.inl ⟨rfl, by omega⟩⟩
                 · by_cases hj2 : j < m
                   · exact hj j hj2
                   · have : j = m := by omega
                     subst this
                     exact ⟨ok0, cv⟩
                 · rw [zrdp_s, i1, i2, e6, e6]
                   split
                   · next hv => rw [hv]; exact zst_eq _ _ _ _
                   · next hv => exact (zst_ne hv).trans (hd v a b)
                 · rw [zst_nr (by decide)]
                   exact he v a b)
          · intro c4
            refine And.intro (fun c => absurd c (by decide)) (fun _ => ?_)
            refine And.intro (by omega) ?_
            first
            | exact ⟨(2 * n - (ix + 1)).toNat, by omega, rfl, rfl, hc, m, 1, ix + 1, _, _, _, rfl, hm, rfl, hj, hF, hd, he, Or.inr (Or.inr ⟨by decide, (zrdf_1 (by omega)).symm, by omega, by omega⟩)⟩
            | exact ⟨(2 * n - (ix + 1)).toNat, by omega, rfl, rfl, hc, m, 3, ix + 1, _, _, _, rfl, hm, rfl, hj, hF, hd, he, Or.inr (Or.inr ⟨by decide, (zrdf_3 (by omega) (by omega)).symm, by omega, by omega⟩)⟩
            | exact ⟨(2 * n - (ix + 1)).toNat, by omega, rfl, rfl, hc, m, 2, ix + 1, _, _, _, rfl, hm, rfl, hj, hF, hd, he, Or.inr (Or.inr ⟨by decide, (zrdf_2 (by omega) (by omega) (by omega)).symm, by omega, by omega⟩)⟩
            | exact ⟨(2 * n - (ix + 1)).toNat, by omega, rfl, rfl, hc, m, 0, ix + 1, _, _, _, rfl, hm, rfl, hj, hF, hd, he, Or.inr (Or.inl ⟨rfl, by omega, by omega, by omega⟩)⟩
            | (have ok0 : zrdf (h 104 k) (h 105 k) l f m = 0 := zrdf_0 (by omega) (by omega) (by omega)
               rw [i1, i2, e6, e6] at cv
               refine ⟨(2 * n - (ix + 1)).toNat, by omega, rfl, rfl, hc, m + 1, 0, ix + 1, _, _, _, rfl, by omega, rfl, fun j hjm => ?_, hF.st rfl, fun v a b => ?_, fun v a b => ?_, Or.inl ⟨rfl, by omega⟩⟩
               · by_cases hj2 : j < m
                 · exact hj j hj2
                 · have : j = m := by omega
                   subst this
                   exact ⟨ok0, cv⟩
               · rw [zrdp_s, i1, i2, e6, e6]
                 split
                 · next hv => rw [hv]; exact zst_eq _ _ _ _
                 · next hv => exact (zst_ne hv).trans (hd v a b)
               · rw [zst_nr (by decide)]
                 exact he v a b)
      · intro c2
        refine hq hc m fd _ hm hj (by omega) ((hF.mono (fun r k hf => ?_)).st rfl) rfl (fun v a b => ?_)
        · simp only [Bool.or_eq_false_iff] at hf ⊢
          exact hf.1
        · rw [zst_nr (by decide)]
          exact hd v a b
    · intro c1
      refine hq hc m fd _ hm hj (by omega) ((hF.mono (fun r k hf => ?_)).st rfl) rfl (fun v a b => ?_)
      · simp only [Bool.or_eq_false_iff] at hf ⊢
        exact hf.1
      · rw [zst_nr (by decide)]
        exact hd v a b
