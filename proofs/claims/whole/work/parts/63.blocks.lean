/-! The class reads blocks and the tape -/
def zDc (h : zM) (D : zD) : Prop := h 4 7 = (D.1 : Int) ∧ h 4 8 = (D.2.2.1 : Int) ∧ (∀ p w : Nat, p < D.1 → w < 6 → h (5 + w) (p : Int) = D.2.1 p w) ∧ (∀ i w : Nat, i < D.2.2.1 → w < 5 → h 11 ((i : Int) * 5 + (w : Int)) = D.2.2.2 i w) ∧ D.1 ≤ 8 ∧ D.2.2.1 ≤ 24
theorem zDc.T {h h2 : zM} {D : zD} (hd : zDc h D) (hF : zF zTf h h2) : zDc h2 D := by
  obtain ⟨a1, a2, a3, a4, a5, a6⟩ := hd
  have hr : ∀ r k, 1 < r → h2 r k = h r k := by
    intro r k hr
    refine hF _ _ ?_
    unfold zTf
    rw [zbeq_ne (show r ≠ 1 by omega)]
    rfl
  exact ⟨(hr _ _ (by omega)).trans a1, (hr _ _ (by omega)).trans a2, fun p w hp hw => (hr _ _ (by omega)).trans (a3 p w hp hw), fun i w hi hw => (hr _ _ (by omega)).trans (a4 i w hi hw), a5, a6⟩
theorem zbd_i {α β : Type} {x : (Int × Nat) ⊕ α} {f : α → (Int × Nat) ⊕ β} {b : β} (h : zbd x f = .inr b) : ∃ a, x = .inr a ∧ f a = .inr b := by
  cases x with
  | inl e => cases h
  | inr a => exact ⟨a, rfl, h⟩
theorem zbn_b {n : Nat} {t : Nat → Int} (hb : ∀ i : Nat, i < n → 0 ≤ t i ∧ t i ≤ 127) {k : zTk} (hk : zTb n k) {k2 : zTk} (h : zbn n t k = .inr k2) : zTb n k2 ∧ k.2.2.1 = 2 ∧ k.2.2.2 < 8 := by
  unfold zbn at h
  split at h
  · cases h
  · rename_i q
    refine ⟨zta_b hb hk h, ?_⟩
    by_cases e : k.2.2.1 = 2
    · exact ⟨e, by omega⟩
    · rw [if_neg e] at h
      unfold zta at h
      rw [if_pos (by omega)] at h
      cases h
theorem zendp_b {n : Nat} {t : Nat → Int} (hb : ∀ i : Nat, i < n → 0 ≤ t i ∧ t i ≤ 127) {k : zTk} (hk : zTb n k) {r : zTk × Int × Int × Int × Int} (h : zendp n t k = .inr r) : zTb n r.1 ∧ zWE 8 (zst6v 0 0 r.2.1 r.2.2.1 r.2.2.2.1 r.2.2.2.2) := by
  unfold zendp at h
  split at h
  · obtain ⟨k1, z1, h⟩ := zbd_i h
    have h := Sum.inr.inj h
    subst h
    exact ⟨ztk_b hb hk.2.1 z1, Or.inr (Or.inr ⟨rfl, rfl, rfl, rfl⟩)⟩
  · split at h
    · obtain ⟨k1, z1, h⟩ := zbd_i h
      obtain ⟨k2, z2, h⟩ := zbd_i h
      have h := Sum.inr.inj h
      subst h
      have b1 := ztk_b hb hk.2.1 z1
      obtain ⟨b2, s2, n2⟩ := zbn_b hb b1 z2
      have := b1.2.2.2 s2
      exact ⟨b2, Or.inl ⟨rfl, ⟨this.1, by show k1.2.2.2 < ((8 : Nat) : Int); omega⟩, rfl, rfl⟩⟩
    · split at h
      · obtain ⟨k1, z1, h⟩ := zbd_i h
        obtain ⟨k2, z2, h⟩ := zbd_i h
        obtain ⟨k3, z3, h⟩ := zbd_i h
        obtain ⟨k4, z4, h⟩ := zbd_i h
        have h := Sum.inr.inj h
        subst h
        have b1 := ztk_b hb hk.2.1 z1
        have b2 := zta_b hb b1 z2
        obtain ⟨b3, s3, n3⟩ := zbn_b hb b2 z3
        obtain ⟨b4, s4, n4⟩ := zbn_b hb b3 z4
        have c2 := b2.2.2.2 s3
        have c3 := b3.2.2.2 s4
        have hv : 0 ≤ zvh n t k1 ∧ zvh n t k1 < 6 := by
          unfold zta at z2
          split at z2
          · cases z2
          · have := zvh_b (n := n) (t := t) (k := k1)
            omega
        exact ⟨b4, Or.inr (Or.inl ⟨rfl, ⟨c2.1, by show k2.2.2.2 < ((8 : Nat) : Int); omega⟩, ⟨c3.1, by show k3.2.2.2 < ((8 : Nat) : Int); omega⟩, hv⟩)⟩
      · cases h
def zbrest (n : Nat) (t : Nat → Int) (D : zD) (r : zTk × Nat × (Nat → Nat → Int)) : (Int × Nat) ⊕ (zTk × zD) := zbd (zendp n t r.1) fun e => zbd (zsm1 n t e.1) fun k3 => .inr (k3, D.1 + 1, (fun p => if p = D.1 then zst6v (D.2.2.1 : Int) ((r.2.1 : Int) - (D.2.2.1 : Int)) e.2.1 e.2.2.1 e.2.2.2.1 e.2.2.2.2 else D.2.1 p), r.2.1, r.2.2)
theorem zblock_e {n : Nat} {t : Nat → Int} {k k1 k2 : zTk} {D : zD} (h0 : zwbb n t k [98, 108, 111, 99, 107] = true) (h1 : ¬ D.1 = 8) (h2 : ztk n t k.2.1 = .inr k1) (h3 : zsm1 n t k1 = .inr k2) : zblock n t k D = zbd (zsteps n t 25 k2 D.2.2.1 D.2.2.2) (zbrest n t D) := by
  unfold zblock
  rw [if_pos h0, if_neg h1, zbd_r h2, zbd_r h3]
  rfl
theorem zIe.D {h : zM} {D : zD} {c : Nat} {S : Nat → Nat → Int} {m : Nat} {e o w y : Int} (hi : zIe h D c S m e o w y) : zDc h (D.1 + 1, (fun p => if p = D.1 then zst6v (D.2.2.1 : Int) ((m : Int) - (D.2.2.1 : Int)) e o w y else D.2.1 p), m, S) := by
  obtain ⟨a1, a2, a3, a4, a5, a6, a7, a8, a9, b1, b2, b3, b4⟩ := hi
  refine ⟨a1, a6, fun p q hp hq => ?_, a9, a2, a8⟩
  have hp : p < D.1 + 1 := hp
  show _ = (if p = D.1 then _ else D.2.1 p) q
  by_cases ep : p = D.1
  · rw [if_pos ep, ep]
    rcases (show q = 0 ∨ q = 1 ∨ q = 2 ∨ q = 3 ∨ q = 4 ∨ q = 5 by omega) with rfl | rfl | rfl | rfl | rfl | rfl
    · exact a4
    · refine a5.trans ?_
      show (c : Int) = (m : Int) - (D.2.2.1 : Int)
      omega
    · exact b1
    · exact b2
    · exact b3
    · exact b4
  · rw [if_neg ep]
    exact a3 p q (by omega) hq
theorem zsteps_n {n : Nat} {t : Nat → Int} {k : zTk} {m : Nat} {S : Nat → Nat → Int} (h1 : zwbb n t k zSET = false) (h2 : zwbb n t k zSAY = false) : ∀ f, zsteps n t f k m S = .inr (k, m, S)
  | 0 => rfl
  | f + 1 => by
    rw [zsteps, if_neg]
    rw [h1, h2]
    rintro (q | q) <;> cases q
theorem zGf_O {h h2 : zM} {p : Int} (hF : zF (zOf 4 p) h h2) : zF zGf h h2 := hF.mono (fun r j hf => by
  by_cases q : 4 ≤ r ∧ r ≤ 11
  · rw [zGf_in q.1 q.2] at hf
    cases hf
  · unfold zOf
    rw [zbeq_ne (show r ≠ 4 by omega)]
    cases e1 : Nat.ble (4 + 1) r
    · rfl
    · cases e2 : Nat.ble r (4 + 6)
      · rfl
      · have := Nat.ble_eq.mp e1; have := Nat.ble_eq.mp e2; omega)
set_option maxHeartbeats 4000000 in
set_option maxRecDepth 100000 in
/-- Reader.takesHead -/
theorem s_174 {h : zM} {n : Nat} {t : Nat → Int} (ht : zTp h n t) {k : zTk} (hk : zTc h k) (hb : zTb n k) {D : zD} (hd : zDc h D) {Q : zQ} (h1 : ∀ k1 k2, zwbb n t k [98, 108, 111, 99, 107] = true → ¬ D.1 = 8 → ztk n t k.2.1 = .inr k1 → zsm1 n t k1 = .inr k2 → ∀ h2, zF zGf h h2 → h2 1 2 = h 1 2 → h2 1 3 = h 1 3 → zTc h2 k2 → zTb n k2 → zIp h2 D 0 D.2.2.2 D.2.2.1 → Q (some (.inl 1)) h2) (h0 : ∀ e, zblock n t k D = .inl e → ∀ h2, zF zGf h h2 → h2 1 2 = e.1 → h2 1 3 = (e.2 : Int) → Q (some (.inl 0)) h2) : zR 174 [.inr (.inr 1)] h Q := by
  have hby := fun i (hi : i < n) => (ht.2.2 i hi).2
  have k5 := hk.1
  obtain ⟨d1, d2, d3, d4, d5, d6⟩ := hd
  have r4 : zWn 4 = 8 := rfl
  refine zx_met0 zk_174 (Or.inr ⟨_, _, rfl, rfl⟩) (Nat.le_of_ble_eq_true rfl) 1000 (fun hok hM => ?_)
  refine s_167 ht hk hb (i := 0) (by omega) (fun w1 => ?_) (fun w1 => ?_)
  all_goals rw [show zwd 0 = [98, 108, 111, 99, 107] from by decide +kernel] at w1
  · refine And.intro (fun c => absurd c (by decide)) (fun _ => ?_)
    refine s_192 (by unfold zWb; omega) d1 (by omega) (fun hlt hO2 hO e7 e1 e2 e3 e4 e5 e6 => ?_) (fun hlt => ?_)
    have hk0 : ∀ (r : Nat) (j : Int), 4 < r → j ≠ (D.1 : Int) → hO2 r j = h r j := by
      intro r j h1 h3
      refine hO _ _ ?_
      unfold zOf
      rw [zbeq_ne (show r ≠ 4 by omega), decide_eq_false h3]
      simp
    have hi : zIp hO2 D 0 D.2.2.2 D.2.2.1 := ⟨e7, by omega, fun p w hp hw => (hk0 _ _ (by omega) (by omega)).trans (d3 p w hp hw), e1.trans d2, e2, (hO _ _ rfl).trans d2, rfl, d6, fun i w hi hw => (hO _ _ rfl).trans (d4 i w hi hw), e3, e4, e5, e6⟩
    have hG0 := zGf_O hO
    have ht0 := ht.G hG0
    have hkO := hk.A (h2 := hO2) (fun j => hO _ _ rfl)
    · refine And.intro (fun c => absurd c (by decide)) (fun _ => ?_)
      refine s_165 ht0 hb.2.1 hkO.2.1 (fun k1 z1 h2 hF1 g21 g31 hk1 => ?_) (fun e z h9 hF9 g29 g39 => ?_)
      · refine And.intro (fun c => absurd c (by decide)) (fun _ => ?_)
        have hb1 := ztk_b hby hb.2.1 z1
        refine s_173 (ht0.fr hF1) hk1 hb1 (fun k2 z2 h3 hF2 g22 g32 hk2 => ?_) (fun e z h9 hF9 g29 g39 => ?_)
        · refine And.intro (fun c => absurd c (by decide)) (fun _ => ?_)
          refine And.intro (by first | exact Or.inl rfl | exact Or.inr rfl | omega) ?_
          first
          | (exact h1 k1 k2 (zwbb_iff.mpr w1) (by omega) z1 z2 _ ((hG0.tr (zGf_T hF1)).tr (zGf_T hF2)) ((g22.trans g21).trans (hO _ _ rfl)) ((g32.trans g31).trans (hO _ _ rfl)) hk2 (zta_b hby hb1 z2) ((hi.T hF1).T hF2))
          | (refine h0 (5, k.1) ?_ _ ((zF.rf.st rfl).st rfl) (by rw [zst_ne (by decide), zst_eq]) (by rw [zst_eq]; exact k5)
             unfold zblock
             rw [if_pos (zwbb_iff.mpr w1), if_pos (by omega)])
          | (refine h0 (2, k.1) ?_ _ ((zF.rf.st rfl).st rfl) (by rw [zst_ne (by decide), zst_eq]) (by rw [zst_eq]; exact k5)
             unfold zblock
             rw [if_neg (by rw [zwbb_f.mpr w1]; decide)])
          | (refine h0 e ?_ _ (hG0.tr (zGf_T hF9)) g29 g39
             unfold zblock
             rw [if_pos (zwbb_iff.mpr w1), if_neg (by omega), zbd_l z])
          | (refine h0 e ?_ _ ((hG0.tr (zGf_T hF1)).tr (zGf_T hF9)) g29 g39
             unfold zblock
             rw [if_pos (zwbb_iff.mpr w1), if_neg (by omega), zbd_r z1, zbd_l z])
        · refine And.intro (fun _ => ?_) (fun c => absurd (by decide) c)
          refine And.intro (by first | exact Or.inl rfl | exact Or.inr rfl | omega) ?_
          first
          | (exact h1 k1 k2 (zwbb_iff.mpr w1) (by omega) z1 z2 _ ((hG0.tr (zGf_T hF1)).tr (zGf_T hF2)) ((g22.trans g21).trans (hO _ _ rfl)) ((g32.trans g31).trans (hO _ _ rfl)) hk2 (zta_b hby hb1 z2) ((hi.T hF1).T hF2))
          | (refine h0 (5, k.1) ?_ _ ((zF.rf.st rfl).st rfl) (by rw [zst_ne (by decide), zst_eq]) (by rw [zst_eq]; exact k5)
             unfold zblock
             rw [if_pos (zwbb_iff.mpr w1), if_pos (by omega)])
          | (refine h0 (2, k.1) ?_ _ ((zF.rf.st rfl).st rfl) (by rw [zst_ne (by decide), zst_eq]) (by rw [zst_eq]; exact k5)
             unfold zblock
             rw [if_neg (by rw [zwbb_f.mpr w1]; decide)])
          | (refine h0 e ?_ _ (hG0.tr (zGf_T hF9)) g29 g39
             unfold zblock
             rw [if_pos (zwbb_iff.mpr w1), if_neg (by omega), zbd_l z])
          | (refine h0 e ?_ _ ((hG0.tr (zGf_T hF1)).tr (zGf_T hF9)) g29 g39
             unfold zblock
             rw [if_pos (zwbb_iff.mpr w1), if_neg (by omega), zbd_r z1, zbd_l z])
      · refine And.intro (fun _ => ?_) (fun c => absurd (by decide) c)
        refine And.intro (by first | exact Or.inl rfl | exact Or.inr rfl | omega) ?_
        first
        | (exact h1 k1 k2 (zwbb_iff.mpr w1) (by omega) z1 z2 _ ((hG0.tr (zGf_T hF1)).tr (zGf_T hF2)) ((g22.trans g21).trans (hO _ _ rfl)) ((g32.trans g31).trans (hO _ _ rfl)) hk2 (zta_b hby hb1 z2) ((hi.T hF1).T hF2))
        | (refine h0 (5, k.1) ?_ _ ((zF.rf.st rfl).st rfl) (by rw [zst_ne (by decide), zst_eq]) (by rw [zst_eq]; exact k5)
           unfold zblock
           rw [if_pos (zwbb_iff.mpr w1), if_pos (by omega)])
        | (refine h0 (2, k.1) ?_ _ ((zF.rf.st rfl).st rfl) (by rw [zst_ne (by decide), zst_eq]) (by rw [zst_eq]; exact k5)
           unfold zblock
           rw [if_neg (by rw [zwbb_f.mpr w1]; decide)])
        | (refine h0 e ?_ _ (hG0.tr (zGf_T hF9)) g29 g39
           unfold zblock
           rw [if_pos (zwbb_iff.mpr w1), if_neg (by omega), zbd_l z])
        | (refine h0 e ?_ _ ((hG0.tr (zGf_T hF1)).tr (zGf_T hF9)) g29 g39
           unfold zblock
           rw [if_pos (zwbb_iff.mpr w1), if_neg (by omega), zbd_r z1, zbd_l z])
    · refine And.intro (fun _ => ?_) (fun c => absurd (by decide) c)
      refine s_164 ?_
      refine And.intro (by first | exact Or.inl rfl | exact Or.inr rfl | omega) ?_
      first
      | (exact h1 k1 k2 (zwbb_iff.mpr w1) (by omega) z1 z2 _ ((hG0.tr (zGf_T hF1)).tr (zGf_T hF2)) ((g22.trans g21).trans (hO _ _ rfl)) ((g32.trans g31).trans (hO _ _ rfl)) hk2 (zta_b hby hb1 z2) ((hi.T hF1).T hF2))
      | (refine h0 (5, k.1) ?_ _ ((zF.rf.st rfl).st rfl) (by rw [zst_ne (by decide), zst_eq]) (by rw [zst_eq]; exact k5)
         unfold zblock
         rw [if_pos (zwbb_iff.mpr w1), if_pos (by omega)])
      | (refine h0 (2, k.1) ?_ _ ((zF.rf.st rfl).st rfl) (by rw [zst_ne (by decide), zst_eq]) (by rw [zst_eq]; exact k5)
         unfold zblock
         rw [if_neg (by rw [zwbb_f.mpr w1]; decide)])
      | (refine h0 e ?_ _ (hG0.tr (zGf_T hF9)) g29 g39
         unfold zblock
         rw [if_pos (zwbb_iff.mpr w1), if_neg (by omega), zbd_l z])
      | (refine h0 e ?_ _ ((hG0.tr (zGf_T hF1)).tr (zGf_T hF9)) g29 g39
         unfold zblock
         rw [if_pos (zwbb_iff.mpr w1), if_neg (by omega), zbd_r z1, zbd_l z])
  · refine And.intro (fun _ => ?_) (fun c => absurd (by decide) c)
    refine s_164 ?_
    refine And.intro (by first | exact Or.inl rfl | exact Or.inr rfl | omega) ?_
    first
    | (exact h1 k1 k2 (zwbb_iff.mpr w1) (by omega) z1 z2 _ ((hG0.tr (zGf_T hF1)).tr (zGf_T hF2)) ((g22.trans g21).trans (hO _ _ rfl)) ((g32.trans g31).trans (hO _ _ rfl)) hk2 (zta_b hby hb1 z2) ((hi.T hF1).T hF2))
    | (refine h0 (5, k.1) ?_ _ ((zF.rf.st rfl).st rfl) (by rw [zst_ne (by decide), zst_eq]) (by rw [zst_eq]; exact k5)
       unfold zblock
       rw [if_pos (zwbb_iff.mpr w1), if_pos (by omega)])
    | (refine h0 (2, k.1) ?_ _ ((zF.rf.st rfl).st rfl) (by rw [zst_ne (by decide), zst_eq]) (by rw [zst_eq]; exact k5)
       unfold zblock
       rw [if_neg (by rw [zwbb_f.mpr w1]; decide)])
    | (refine h0 e ?_ _ (hG0.tr (zGf_T hF9)) g29 g39
       unfold zblock
       rw [if_pos (zwbb_iff.mpr w1), if_neg (by omega), zbd_l z])
    | (refine h0 e ?_ _ ((hG0.tr (zGf_T hF1)).tr (zGf_T hF9)) g29 g39
       unfold zblock
       rw [if_pos (zwbb_iff.mpr w1), if_neg (by omega), zbd_r z1, zbd_l z])
set_option maxHeartbeats 4000000 in
set_option maxRecDepth 100000 in
/-- Reader.takesSteps -/
theorem s_204 {h : zM} {n : Nat} {t : Nat → Int} (ht : zTp h n t) {k : zTk} (hk : zTc h k) (hb : zTb n k) {D : zD} (hi0 : zIp h D 0 D.2.2.2 D.2.2.1) {Q : zQ} (h1 : ∀ r c, zsteps n t 25 k D.2.2.1 D.2.2.2 = .inr r → ∀ h2, zF zGf h h2 → h2 1 2 = h 1 2 → h2 1 3 = h 1 3 → zTc h2 r.1 → zTb n r.1 → zIp h2 D c r.2.2 r.2.1 → Q (some (.inl 1)) h2) (h0 : ∀ e, zsteps n t 25 k D.2.2.1 D.2.2.2 = .inl e → ∀ h2, zF zGf h h2 → h2 1 2 = e.1 → h2 1 3 = (e.2 : Int) → Q (some (.inl 0)) h2) : zR 204 [.inr (.inr 1)] h Q := by
  have hby := fun i (hi : i < n) => (ht.2.2 i hi).2
  generalize hX : zsteps n t 25 k D.2.2.1 D.2.2.2 = X at h1 h0
  refine zx_met zk_204 (Or.inr ⟨_, _, rfl, rfl⟩) (Nat.le_of_ble_eq_true rfl) (fun _ => false) 1000 (fun m0 j L S0 h2 => j = 2 ∧ S0 = [] ∧ ∃ (i7 m7 : Nat) (q2 : Option zV) (k7 : zTk) (S7 : Nat → Nat → Int), L = [some (.inr (.inr 1)), some (.inl (i7 : Int)), q2] ∧ m0 = 30 - i7 ∧ i7 ≤ 25 ∧ X = zsteps n t (25 - i7) k7 m7 S7 ∧ zIp h2 D i7 S7 m7 ∧ zTc h2 k7 ∧ zTb n k7 ∧ zF zGf h h2 ∧ h2 1 2 = h 1 2 ∧ h2 1 3 = h 1 3) (fun hok hM => ?_) (fun hok hM => ?_)
  · exact ⟨_, rfl, rfl, 0, _, _, k, _, rfl, rfl, by omega, hX.symm, hi0, hk, hb, zF.rf, rfl, rfl⟩
  · rintro m0 j L S0 h2 hM2 ⟨rfl, rfl, i7, m7, q2, k7, S7, rfl, hm0, hi7, hz, hi, hk7, hb7, hF, g2, g3⟩
    have ht2 := ht.G hF
    have m24 : m7 ≤ 24 := hi.2.2.2.2.2.2.2.1
    have me : m7 = D.2.2.1 + i7 := hi.2.2.2.2.2.2.1
    have e48 := hi.2.2.2.2.2.1
    have k75 := hk7.1
    obtain ⟨f7, hf7⟩ : ∃ f7, 25 - i7 = f7 + 1 := ⟨24 - i7, by omega⟩
    have hf8 : 25 - (i7 + 1) = f7 := by omega
    refine And.intro (fun c1 => absurd c1 (by omega)) (fun c1 => ?_)
    refine s_167 ht2 hk7 hb7 (i := 1) (by omega) (fun w2 => ?_) (fun w2 => ?_)
    all_goals rw [show zwd 1 = zSET from by decide +kernel] at w2
    · refine And.intro (fun c => absurd c (by decide)) (fun _ => ?_)
      have hss : zwbb n t k7 zSET = true ∨ zwbb n t k7 zSAY = true := by first | exact Or.inl (zwbb_iff.mpr w2) | exact Or.inr (zwbb_iff.mpr w3)
      rw [hf7, zsteps, if_pos hss] at hz
      constructor
      · intro c2
        refine s_167 ht2 hk7 hb7 (i := 1) (by omega) (fun w4 => ?_) (fun w4 => ?_)
        all_goals rw [show zwd 1 = zSET from by decide +kernel] at w4
        · rw [if_neg (by omega)] at hz
          refine s_165 ht2 hb7.2.1 hk7.2.1 (fun k1 z1 h3 hF1 g21 g31 hk1 => ?_) (fun e z h9 hF9 g29 g39 => ?_)
          · refine And.intro (fun c => absurd c (by decide)) (fun _ => ?_)
            have hb1 := ztk_b hby hb7.2.1 z1
            refine And.intro (fun c => absurd c (by decide)) (fun _ => ?_)
            refine s_175 (ht2.fr hF1) hk1 hb1 (hi.T hF1) (by omega) (fun r z2 h4 hF2 g22 g32 hk2 hi2 => ?_) (fun e z h9 hF9 g29 g39 => ?_)
            · refine And.intro (fun c => absurd c (by decide)) (fun _ => ?_)
              have hbr : zTb n r.1 := by
                have y := z2
                first
                | (unfold zset at y
                   revert y
                   cases q1 : zta n t k1 (zvh n t k1) with
                   | inl e1 => intro y; cases y
                   | inr k2 =>
                     intro y
                     have y : (zbd (zta n t k2 (zoh n t k2)) fun k3 => _) = _ := y
                     have c2 := zta_b hby hb1 q1
                     revert y
                     cases q2 : zta n t k2 (zoh n t k2) with
                     | inl e1 => intro y; cases y
                     | inr k3 =>
                       intro y
                       have c3 := zta_b hby c2 q2
                       have y : (if k3.2.2.1 = 1 then zbd (zta n t k3 (zoq n t k3)) fun k4 => _ else _) = _ := y
                       split at y
                       · revert y
                         cases q3 : zta n t k3 (zoq n t k3) with
                         | inl e1 => intro y; cases y
                         | inr k4 =>
                           intro y
                           have c4 := zta_b hby c3 q3
                           have y : (zbd (zta n t k4 (zoh n t k4)) fun k5 => _) = _ := y
                           revert y
                           cases q4 : zta n t k4 (zoh n t k4) with
                           | inl e1 => intro y; cases y
                           | inr k5 =>
                             intro y
                             have c5 := zta_b hby c4 q4
                             have y := Sum.inr.inj y
                             rw [← y]
                             exact c5
                       · have y := Sum.inr.inj y
                         rw [← y]
                         exact c3)
                | (unfold zsay at y
                   revert y
                   cases q1 : zta n t k1 (zoh n t k1) with
                   | inl e1 => intro y; cases y
                   | inr k2 =>
                     intro y
                     have c2 := zta_b hby hb1 q1
                     have y := Sum.inr.inj y
                     rw [← y]
                     exact c2)
              refine s_173 ((ht2.fr hF1).G hF2) hk2 hbr (fun k3 z3 h5 hF3 g23 g33 hk3 => ?_) (fun e z h9 hF9 g29 g39 => ?_)
              · refine And.intro (fun c => absurd c (by decide)) (fun _ => ?_)
                refine And.intro (by omega) ?_
                have hst : zstep n t k7 = .inr (k3, r.2) := by
                  unfold zstep
                  rw [zbd_r z1]
                  first
                  | (rw [if_pos (zwbb_iff.mpr w4), zbd_r z2, zbd_r z3])
                  | (rw [if_neg (by rw [zwbb_f.mpr w4]; decide), zbd_r z2, zbd_r z3])
                rw [zbd_r hst, ← hf8] at hz
                exact ⟨30 - (i7 + 1), by omega, rfl, rfl, i7 + 1, m7 + 1, _, k3, _, rfl, rfl, by omega, hz, hi2.T hF3, hk3, zta_b hby hbr z3, ((hF.tr (zGf_T hF1)).tr hF2).tr (zGf_T hF3), ((g23.trans g22).trans g21).trans g2, ((g33.trans g32).trans g31).trans g3⟩
              · refine And.intro (fun _ => ?_) (fun c => absurd (by decide) c)
                refine And.intro (by first | exact Or.inl rfl | exact Or.inr rfl | omega) ?_
                first
                | (rw [zsteps_n (zwbb_f.mpr w2) (zwbb_f.mpr w3)] at hz
                   exact h1 _ i7 hz _ hF g2 g3 hk7 hb7 hi)
                | (have hst : zstep n t k7 = .inl e := by
                     unfold zstep
                     rw [zbd_r z1]
                     first
                     | (rw [if_pos (zwbb_iff.mpr w4), zbd_r z2, zbd_l z])
                     | (rw [if_neg (by rw [zwbb_f.mpr w4]; decide), zbd_r z2, zbd_l z])
                   rw [zbd_l hst] at hz
                   exact h0 _ hz _ (((hF.tr (zGf_T hF1)).tr hF2).tr (zGf_T hF9)) g29 g39)
                | (have hst : zstep n t k7 = .inl e := by
                     unfold zstep
                     rw [zbd_r z1]
                     first
                     | (rw [if_pos (zwbb_iff.mpr w4), zbd_l z])
                     | (rw [if_neg (by rw [zwbb_f.mpr w4]; decide), zbd_l z])
                   rw [zbd_l hst] at hz
                   exact h0 _ hz _ ((hF.tr (zGf_T hF1)).tr hF9) g29 g39)
                | (have hst : zstep n t k7 = .inl e := by
                     unfold zstep
                     rw [zbd_l z]
                   rw [zbd_l hst] at hz
                   exact h0 _ hz _ (hF.tr (zGf_T hF9)) g29 g39)
                | (rw [if_pos (by omega)] at hz
                   exact h0 _ hz _ ((hF.st rfl).st rfl) (by rw [zst_ne (by decide), zst_eq]) (by rw [zst_eq]; exact k75))
            · refine And.intro (fun _ => ?_) (fun c => absurd (by decide) c)
              refine And.intro (by first | exact Or.inl rfl | exact Or.inr rfl | omega) ?_
              first
              | (rw [zsteps_n (zwbb_f.mpr w2) (zwbb_f.mpr w3)] at hz
                 exact h1 _ i7 hz _ hF g2 g3 hk7 hb7 hi)
              | (have hst : zstep n t k7 = .inl e := by
                   unfold zstep
                   rw [zbd_r z1]
                   first
                   | (rw [if_pos (zwbb_iff.mpr w4), zbd_r z2, zbd_l z])
                   | (rw [if_neg (by rw [zwbb_f.mpr w4]; decide), zbd_r z2, zbd_l z])
                 rw [zbd_l hst] at hz
                 exact h0 _ hz _ (((hF.tr (zGf_T hF1)).tr hF2).tr (zGf_T hF9)) g29 g39)
              | (have hst : zstep n t k7 = .inl e := by
                   unfold zstep
                   rw [zbd_r z1]
                   first
                   | (rw [if_pos (zwbb_iff.mpr w4), zbd_l z])
                   | (rw [if_neg (by rw [zwbb_f.mpr w4]; decide), zbd_l z])
                 rw [zbd_l hst] at hz
                 exact h0 _ hz _ ((hF.tr (zGf_T hF1)).tr hF9) g29 g39)
              | (have hst : zstep n t k7 = .inl e := by
                   unfold zstep
                   rw [zbd_l z]
                 rw [zbd_l hst] at hz
                 exact h0 _ hz _ (hF.tr (zGf_T hF9)) g29 g39)
              | (rw [if_pos (by omega)] at hz
                 exact h0 _ hz _ ((hF.st rfl).st rfl) (by rw [zst_ne (by decide), zst_eq]) (by rw [zst_eq]; exact k75))
          · refine And.intro (fun _ => ?_) (fun c => absurd (by decide) c)
            refine And.intro (by first | exact Or.inl rfl | exact Or.inr rfl | omega) ?_
            first
            | (rw [zsteps_n (zwbb_f.mpr w2) (zwbb_f.mpr w3)] at hz
               exact h1 _ i7 hz _ hF g2 g3 hk7 hb7 hi)
            | (have hst : zstep n t k7 = .inl e := by
                 unfold zstep
                 rw [zbd_r z1]
                 first
                 | (rw [if_pos (zwbb_iff.mpr w4), zbd_r z2, zbd_l z])
                 | (rw [if_neg (by rw [zwbb_f.mpr w4]; decide), zbd_r z2, zbd_l z])
               rw [zbd_l hst] at hz
               exact h0 _ hz _ (((hF.tr (zGf_T hF1)).tr hF2).tr (zGf_T hF9)) g29 g39)
            | (have hst : zstep n t k7 = .inl e := by
                 unfold zstep
                 rw [zbd_r z1]
                 first
                 | (rw [if_pos (zwbb_iff.mpr w4), zbd_l z])
                 | (rw [if_neg (by rw [zwbb_f.mpr w4]; decide), zbd_l z])
               rw [zbd_l hst] at hz
               exact h0 _ hz _ ((hF.tr (zGf_T hF1)).tr hF9) g29 g39)
            | (have hst : zstep n t k7 = .inl e := by
                 unfold zstep
                 rw [zbd_l z]
               rw [zbd_l hst] at hz
               exact h0 _ hz _ (hF.tr (zGf_T hF9)) g29 g39)
            | (rw [if_pos (by omega)] at hz
               exact h0 _ hz _ ((hF.st rfl).st rfl) (by rw [zst_ne (by decide), zst_eq]) (by rw [zst_eq]; exact k75))
        · rw [if_neg (by omega)] at hz
          refine s_165 ht2 hb7.2.1 hk7.2.1 (fun k1 z1 h3 hF1 g21 g31 hk1 => ?_) (fun e z h9 hF9 g29 g39 => ?_)
          · refine And.intro (fun c => absurd c (by decide)) (fun _ => ?_)
            have hb1 := ztk_b hby hb7.2.1 z1
            refine And.intro (fun _ => ?_) (fun c => absurd (by decide) c)
            refine s_176 (ht2.fr hF1) hk1 hb1 (hi.T hF1) (by omega) (fun r z2 h4 hF2 g22 g32 hk2 hi2 => ?_) (fun e z h9 hF9 g29 g39 => ?_)
            · refine And.intro (fun c => absurd c (by decide)) (fun _ => ?_)
              have hbr : zTb n r.1 := by
                have y := z2
                first
                | (unfold zset at y
                   revert y
                   cases q1 : zta n t k1 (zvh n t k1) with
                   | inl e1 => intro y; cases y
                   | inr k2 =>
                     intro y
                     have y : (zbd (zta n t k2 (zoh n t k2)) fun k3 => _) = _ := y
                     have c2 := zta_b hby hb1 q1
                     revert y
                     cases q2 : zta n t k2 (zoh n t k2) with
                     | inl e1 => intro y; cases y
                     | inr k3 =>
                       intro y
                       have c3 := zta_b hby c2 q2
                       have y : (if k3.2.2.1 = 1 then zbd (zta n t k3 (zoq n t k3)) fun k4 => _ else _) = _ := y
                       split at y
                       · revert y
                         cases q3 : zta n t k3 (zoq n t k3) with
                         | inl e1 => intro y; cases y
                         | inr k4 =>
                           intro y
                           have c4 := zta_b hby c3 q3
                           have y : (zbd (zta n t k4 (zoh n t k4)) fun k5 => _) = _ := y
                           revert y
                           cases q4 : zta n t k4 (zoh n t k4) with
                           | inl e1 => intro y; cases y
                           | inr k5 =>
                             intro y
                             have c5 := zta_b hby c4 q4
                             have y := Sum.inr.inj y
                             rw [← y]
                             exact c5
                       · have y := Sum.inr.inj y
                         rw [← y]
                         exact c3)
                | (unfold zsay at y
                   revert y
                   cases q1 : zta n t k1 (zoh n t k1) with
                   | inl e1 => intro y; cases y
                   | inr k2 =>
                     intro y
                     have c2 := zta_b hby hb1 q1
                     have y := Sum.inr.inj y
                     rw [← y]
                     exact c2)
              refine s_173 ((ht2.fr hF1).G hF2) hk2 hbr (fun k3 z3 h5 hF3 g23 g33 hk3 => ?_) (fun e z h9 hF9 g29 g39 => ?_)
              · refine And.intro (fun c => absurd c (by decide)) (fun _ => ?_)
                refine And.intro (by omega) ?_
                have hst : zstep n t k7 = .inr (k3, r.2) := by
                  unfold zstep
                  rw [zbd_r z1]
                  first
                  | (rw [if_pos (zwbb_iff.mpr w4), zbd_r z2, zbd_r z3])
                  | (rw [if_neg (by rw [zwbb_f.mpr w4]; decide), zbd_r z2, zbd_r z3])
                rw [zbd_r hst, ← hf8] at hz
                exact ⟨30 - (i7 + 1), by omega, rfl, rfl, i7 + 1, m7 + 1, _, k3, _, rfl, rfl, by omega, hz, hi2.T hF3, hk3, zta_b hby hbr z3, ((hF.tr (zGf_T hF1)).tr hF2).tr (zGf_T hF3), ((g23.trans g22).trans g21).trans g2, ((g33.trans g32).trans g31).trans g3⟩
              · refine And.intro (fun _ => ?_) (fun c => absurd (by decide) c)
                refine And.intro (by first | exact Or.inl rfl | exact Or.inr rfl | omega) ?_
                first
                | (rw [zsteps_n (zwbb_f.mpr w2) (zwbb_f.mpr w3)] at hz
                   exact h1 _ i7 hz _ hF g2 g3 hk7 hb7 hi)
                | (have hst : zstep n t k7 = .inl e := by
                     unfold zstep
                     rw [zbd_r z1]
                     first
                     | (rw [if_pos (zwbb_iff.mpr w4), zbd_r z2, zbd_l z])
                     | (rw [if_neg (by rw [zwbb_f.mpr w4]; decide), zbd_r z2, zbd_l z])
                   rw [zbd_l hst] at hz
                   exact h0 _ hz _ (((hF.tr (zGf_T hF1)).tr hF2).tr (zGf_T hF9)) g29 g39)
                | (have hst : zstep n t k7 = .inl e := by
                     unfold zstep
                     rw [zbd_r z1]
                     first
                     | (rw [if_pos (zwbb_iff.mpr w4), zbd_l z])
                     | (rw [if_neg (by rw [zwbb_f.mpr w4]; decide), zbd_l z])
                   rw [zbd_l hst] at hz
                   exact h0 _ hz _ ((hF.tr (zGf_T hF1)).tr hF9) g29 g39)
                | (have hst : zstep n t k7 = .inl e := by
                     unfold zstep
                     rw [zbd_l z]
                   rw [zbd_l hst] at hz
                   exact h0 _ hz _ (hF.tr (zGf_T hF9)) g29 g39)
                | (rw [if_pos (by omega)] at hz
                   exact h0 _ hz _ ((hF.st rfl).st rfl) (by rw [zst_ne (by decide), zst_eq]) (by rw [zst_eq]; exact k75))
            · refine And.intro (fun _ => ?_) (fun c => absurd (by decide) c)
              refine And.intro (by first | exact Or.inl rfl | exact Or.inr rfl | omega) ?_
              first
              | (rw [zsteps_n (zwbb_f.mpr w2) (zwbb_f.mpr w3)] at hz
                 exact h1 _ i7 hz _ hF g2 g3 hk7 hb7 hi)
              | (have hst : zstep n t k7 = .inl e := by
                   unfold zstep
                   rw [zbd_r z1]
                   first
                   | (rw [if_pos (zwbb_iff.mpr w4), zbd_r z2, zbd_l z])
                   | (rw [if_neg (by rw [zwbb_f.mpr w4]; decide), zbd_r z2, zbd_l z])
                 rw [zbd_l hst] at hz
                 exact h0 _ hz _ (((hF.tr (zGf_T hF1)).tr hF2).tr (zGf_T hF9)) g29 g39)
              | (have hst : zstep n t k7 = .inl e := by
                   unfold zstep
                   rw [zbd_r z1]
                   first
                   | (rw [if_pos (zwbb_iff.mpr w4), zbd_l z])
                   | (rw [if_neg (by rw [zwbb_f.mpr w4]; decide), zbd_l z])
                 rw [zbd_l hst] at hz
                 exact h0 _ hz _ ((hF.tr (zGf_T hF1)).tr hF9) g29 g39)
              | (have hst : zstep n t k7 = .inl e := by
                   unfold zstep
                   rw [zbd_l z]
                 rw [zbd_l hst] at hz
                 exact h0 _ hz _ (hF.tr (zGf_T hF9)) g29 g39)
              | (rw [if_pos (by omega)] at hz
                 exact h0 _ hz _ ((hF.st rfl).st rfl) (by rw [zst_ne (by decide), zst_eq]) (by rw [zst_eq]; exact k75))
          · refine And.intro (fun _ => ?_) (fun c => absurd (by decide) c)
            refine And.intro (by first | exact Or.inl rfl | exact Or.inr rfl | omega) ?_
            first
            | (rw [zsteps_n (zwbb_f.mpr w2) (zwbb_f.mpr w3)] at hz
               exact h1 _ i7 hz _ hF g2 g3 hk7 hb7 hi)
            | (have hst : zstep n t k7 = .inl e := by
                 unfold zstep
                 rw [zbd_r z1]
                 first
                 | (rw [if_pos (zwbb_iff.mpr w4), zbd_r z2, zbd_l z])
                 | (rw [if_neg (by rw [zwbb_f.mpr w4]; decide), zbd_r z2, zbd_l z])
               rw [zbd_l hst] at hz
               exact h0 _ hz _ (((hF.tr (zGf_T hF1)).tr hF2).tr (zGf_T hF9)) g29 g39)
            | (have hst : zstep n t k7 = .inl e := by
                 unfold zstep
                 rw [zbd_r z1]
                 first
                 | (rw [if_pos (zwbb_iff.mpr w4), zbd_l z])
                 | (rw [if_neg (by rw [zwbb_f.mpr w4]; decide), zbd_l z])
               rw [zbd_l hst] at hz
               exact h0 _ hz _ ((hF.tr (zGf_T hF1)).tr hF9) g29 g39)
            | (have hst : zstep n t k7 = .inl e := by
                 unfold zstep
                 rw [zbd_l z]
               rw [zbd_l hst] at hz
               exact h0 _ hz _ (hF.tr (zGf_T hF9)) g29 g39)
            | (rw [if_pos (by omega)] at hz
               exact h0 _ hz _ ((hF.st rfl).st rfl) (by rw [zst_ne (by decide), zst_eq]) (by rw [zst_eq]; exact k75))
      · intro c2
        refine s_164 ?_
        refine And.intro (by first | exact Or.inl rfl | exact Or.inr rfl | omega) ?_
        first
        | (rw [zsteps_n (zwbb_f.mpr w2) (zwbb_f.mpr w3)] at hz
           exact h1 _ i7 hz _ hF g2 g3 hk7 hb7 hi)
        | (have hst : zstep n t k7 = .inl e := by
             unfold zstep
             rw [zbd_r z1]
             first
             | (rw [if_pos (zwbb_iff.mpr w4), zbd_r z2, zbd_l z])
             | (rw [if_neg (by rw [zwbb_f.mpr w4]; decide), zbd_r z2, zbd_l z])
           rw [zbd_l hst] at hz
           exact h0 _ hz _ (((hF.tr (zGf_T hF1)).tr hF2).tr (zGf_T hF9)) g29 g39)
        | (have hst : zstep n t k7 = .inl e := by
             unfold zstep
             rw [zbd_r z1]
             first
             | (rw [if_pos (zwbb_iff.mpr w4), zbd_l z])
             | (rw [if_neg (by rw [zwbb_f.mpr w4]; decide), zbd_l z])
           rw [zbd_l hst] at hz
           exact h0 _ hz _ ((hF.tr (zGf_T hF1)).tr hF9) g29 g39)
        | (have hst : zstep n t k7 = .inl e := by
             unfold zstep
             rw [zbd_l z]
           rw [zbd_l hst] at hz
           exact h0 _ hz _ (hF.tr (zGf_T hF9)) g29 g39)
        | (rw [if_pos (by omega)] at hz
           exact h0 _ hz _ ((hF.st rfl).st rfl) (by rw [zst_ne (by decide), zst_eq]) (by rw [zst_eq]; exact k75))
    · refine And.intro (fun _ => ?_) (fun c => absurd (by decide) c)
      refine s_167 ht2 hk7 hb7 (i := 2) (by omega) (fun w3 => ?_) (fun w3 => ?_)
      all_goals rw [show zwd 2 = zSAY from by decide +kernel] at w3
      · refine And.intro (fun c => absurd c (by decide)) (fun _ => ?_)
        have hss : zwbb n t k7 zSET = true ∨ zwbb n t k7 zSAY = true := by first | exact Or.inl (zwbb_iff.mpr w2) | exact Or.inr (zwbb_iff.mpr w3)
        rw [hf7, zsteps, if_pos hss] at hz
        constructor
        · intro c3
          refine s_167 ht2 hk7 hb7 (i := 1) (by omega) (fun w4 => ?_) (fun w4 => ?_)
          all_goals rw [show zwd 1 = zSET from by decide +kernel] at w4
          · rw [if_neg (by omega)] at hz
            refine s_165 ht2 hb7.2.1 hk7.2.1 (fun k1 z1 h3 hF1 g21 g31 hk1 => ?_) (fun e z h9 hF9 g29 g39 => ?_)
            · refine And.intro (fun c => absurd c (by decide)) (fun _ => ?_)
              have hb1 := ztk_b hby hb7.2.1 z1
              refine And.intro (fun c => absurd c (by decide)) (fun _ => ?_)
              refine s_175 (ht2.fr hF1) hk1 hb1 (hi.T hF1) (by omega) (fun r z2 h4 hF2 g22 g32 hk2 hi2 => ?_) (fun e z h9 hF9 g29 g39 => ?_)
              · refine And.intro (fun c => absurd c (by decide)) (fun _ => ?_)
                have hbr : zTb n r.1 := by
                  have y := z2
                  first
                  | (unfold zset at y
                     revert y
                     cases q1 : zta n t k1 (zvh n t k1) with
                     | inl e1 => intro y; cases y
                     | inr k2 =>
                       intro y
                       have y : (zbd (zta n t k2 (zoh n t k2)) fun k3 => _) = _ := y
                       have c2 := zta_b hby hb1 q1
                       revert y
                       cases q2 : zta n t k2 (zoh n t k2) with
                       | inl e1 => intro y; cases y
                       | inr k3 =>
                         intro y
                         have c3 := zta_b hby c2 q2
                         have y : (if k3.2.2.1 = 1 then zbd (zta n t k3 (zoq n t k3)) fun k4 => _ else _) = _ := y
                         split at y
                         · revert y
                           cases q3 : zta n t k3 (zoq n t k3) with
                           | inl e1 => intro y; cases y
                           | inr k4 =>
                             intro y
                             have c4 := zta_b hby c3 q3
                             have y : (zbd (zta n t k4 (zoh n t k4)) fun k5 => _) = _ := y
                             revert y
                             cases q4 : zta n t k4 (zoh n t k4) with
                             | inl e1 => intro y; cases y
                             | inr k5 =>
                               intro y
                               have c5 := zta_b hby c4 q4
                               have y := Sum.inr.inj y
                               rw [← y]
                               exact c5
                         · have y := Sum.inr.inj y
                           rw [← y]
                           exact c3)
                  | (unfold zsay at y
                     revert y
                     cases q1 : zta n t k1 (zoh n t k1) with
                     | inl e1 => intro y; cases y
                     | inr k2 =>
                       intro y
                       have c2 := zta_b hby hb1 q1
                       have y := Sum.inr.inj y
                       rw [← y]
                       exact c2)
                refine s_173 ((ht2.fr hF1).G hF2) hk2 hbr (fun k3 z3 h5 hF3 g23 g33 hk3 => ?_) (fun e z h9 hF9 g29 g39 => ?_)
                · refine And.intro (fun c => absurd c (by decide)) (fun _ => ?_)
                  refine And.intro (by omega) ?_
                  have hst : zstep n t k7 = .inr (k3, r.2) := by
                    unfold zstep
                    rw [zbd_r z1]
                    first
                    | (rw [if_pos (zwbb_iff.mpr w4), zbd_r z2, zbd_r z3])
                    | (rw [if_neg (by rw [zwbb_f.mpr w4]; decide), zbd_r z2, zbd_r z3])
                  rw [zbd_r hst, ← hf8] at hz
                  exact ⟨30 - (i7 + 1), by omega, rfl, rfl, i7 + 1, m7 + 1, _, k3, _, rfl, rfl, by omega, hz, hi2.T hF3, hk3, zta_b hby hbr z3, ((hF.tr (zGf_T hF1)).tr hF2).tr (zGf_T hF3), ((g23.trans g22).trans g21).trans g2, ((g33.trans g32).trans g31).trans g3⟩
                · refine And.intro (fun _ => ?_) (fun c => absurd (by decide) c)
                  refine And.intro (by first | exact Or.inl rfl | exact Or.inr rfl | omega) ?_
                  first
                  | (rw [zsteps_n (zwbb_f.mpr w2) (zwbb_f.mpr w3)] at hz
                     exact h1 _ i7 hz _ hF g2 g3 hk7 hb7 hi)
                  | (have hst : zstep n t k7 = .inl e := by
                       unfold zstep
                       rw [zbd_r z1]
                       first
                       | (rw [if_pos (zwbb_iff.mpr w4), zbd_r z2, zbd_l z])
                       | (rw [if_neg (by rw [zwbb_f.mpr w4]; decide), zbd_r z2, zbd_l z])
                     rw [zbd_l hst] at hz
                     exact h0 _ hz _ (((hF.tr (zGf_T hF1)).tr hF2).tr (zGf_T hF9)) g29 g39)
                  | (have hst : zstep n t k7 = .inl e := by
                       unfold zstep
                       rw [zbd_r z1]
                       first
                       | (rw [if_pos (zwbb_iff.mpr w4), zbd_l z])
                       | (rw [if_neg (by rw [zwbb_f.mpr w4]; decide), zbd_l z])
                     rw [zbd_l hst] at hz
                     exact h0 _ hz _ ((hF.tr (zGf_T hF1)).tr hF9) g29 g39)
                  | (have hst : zstep n t k7 = .inl e := by
                       unfold zstep
                       rw [zbd_l z]
                     rw [zbd_l hst] at hz
                     exact h0 _ hz _ (hF.tr (zGf_T hF9)) g29 g39)
                  | (rw [if_pos (by omega)] at hz
                     exact h0 _ hz _ ((hF.st rfl).st rfl) (by rw [zst_ne (by decide), zst_eq]) (by rw [zst_eq]; exact k75))
              · refine And.intro (fun _ => ?_) (fun c => absurd (by decide) c)
                refine And.intro (by first | exact Or.inl rfl | exact Or.inr rfl | omega) ?_
                first
                | (rw [zsteps_n (zwbb_f.mpr w2) (zwbb_f.mpr w3)] at hz
                   exact h1 _ i7 hz _ hF g2 g3 hk7 hb7 hi)
                | (have hst : zstep n t k7 = .inl e := by
                     unfold zstep
                     rw [zbd_r z1]
                     first
                     | (rw [if_pos (zwbb_iff.mpr w4), zbd_r z2, zbd_l z])
                     | (rw [if_neg (by rw [zwbb_f.mpr w4]; decide), zbd_r z2, zbd_l z])
                   rw [zbd_l hst] at hz
                   exact h0 _ hz _ (((hF.tr (zGf_T hF1)).tr hF2).tr (zGf_T hF9)) g29 g39)
                | (have hst : zstep n t k7 = .inl e := by
                     unfold zstep
                     rw [zbd_r z1]
                     first
                     | (rw [if_pos (zwbb_iff.mpr w4), zbd_l z])
                     | (rw [if_neg (by rw [zwbb_f.mpr w4]; decide), zbd_l z])
                   rw [zbd_l hst] at hz
                   exact h0 _ hz _ ((hF.tr (zGf_T hF1)).tr hF9) g29 g39)
                | (have hst : zstep n t k7 = .inl e := by
                     unfold zstep
                     rw [zbd_l z]
                   rw [zbd_l hst] at hz
                   exact h0 _ hz _ (hF.tr (zGf_T hF9)) g29 g39)
                | (rw [if_pos (by omega)] at hz
                   exact h0 _ hz _ ((hF.st rfl).st rfl) (by rw [zst_ne (by decide), zst_eq]) (by rw [zst_eq]; exact k75))
            · refine And.intro (fun _ => ?_) (fun c => absurd (by decide) c)
              refine And.intro (by first | exact Or.inl rfl | exact Or.inr rfl | omega) ?_
              first
              | (rw [zsteps_n (zwbb_f.mpr w2) (zwbb_f.mpr w3)] at hz
                 exact h1 _ i7 hz _ hF g2 g3 hk7 hb7 hi)
              | (have hst : zstep n t k7 = .inl e := by
                   unfold zstep
                   rw [zbd_r z1]
                   first
                   | (rw [if_pos (zwbb_iff.mpr w4), zbd_r z2, zbd_l z])
                   | (rw [if_neg (by rw [zwbb_f.mpr w4]; decide), zbd_r z2, zbd_l z])
                 rw [zbd_l hst] at hz
                 exact h0 _ hz _ (((hF.tr (zGf_T hF1)).tr hF2).tr (zGf_T hF9)) g29 g39)
              | (have hst : zstep n t k7 = .inl e := by
                   unfold zstep
                   rw [zbd_r z1]
                   first
                   | (rw [if_pos (zwbb_iff.mpr w4), zbd_l z])
                   | (rw [if_neg (by rw [zwbb_f.mpr w4]; decide), zbd_l z])
                 rw [zbd_l hst] at hz
                 exact h0 _ hz _ ((hF.tr (zGf_T hF1)).tr hF9) g29 g39)
              | (have hst : zstep n t k7 = .inl e := by
                   unfold zstep
                   rw [zbd_l z]
                 rw [zbd_l hst] at hz
                 exact h0 _ hz _ (hF.tr (zGf_T hF9)) g29 g39)
              | (rw [if_pos (by omega)] at hz
                 exact h0 _ hz _ ((hF.st rfl).st rfl) (by rw [zst_ne (by decide), zst_eq]) (by rw [zst_eq]; exact k75))
          · rw [if_neg (by omega)] at hz
            refine s_165 ht2 hb7.2.1 hk7.2.1 (fun k1 z1 h3 hF1 g21 g31 hk1 => ?_) (fun e z h9 hF9 g29 g39 => ?_)
            · refine And.intro (fun c => absurd c (by decide)) (fun _ => ?_)
              have hb1 := ztk_b hby hb7.2.1 z1
              refine And.intro (fun _ => ?_) (fun c => absurd (by decide) c)
              refine s_176 (ht2.fr hF1) hk1 hb1 (hi.T hF1) (by omega) (fun r z2 h4 hF2 g22 g32 hk2 hi2 => ?_) (fun e z h9 hF9 g29 g39 => ?_)
              · refine And.intro (fun c => absurd c (by decide)) (fun _ => ?_)
                have hbr : zTb n r.1 := by
                  have y := z2
                  first
                  | (unfold zset at y
                     revert y
                     cases q1 : zta n t k1 (zvh n t k1) with
                     | inl e1 => intro y; cases y
                     | inr k2 =>
                       intro y
                       have y : (zbd (zta n t k2 (zoh n t k2)) fun k3 => _) = _ := y
                       have c2 := zta_b hby hb1 q1
                       revert y
                       cases q2 : zta n t k2 (zoh n t k2) with
                       | inl e1 => intro y; cases y
                       | inr k3 =>
                         intro y
                         have c3 := zta_b hby c2 q2
                         have y : (if k3.2.2.1 = 1 then zbd (zta n t k3 (zoq n t k3)) fun k4 => _ else _) = _ := y
                         split at y
                         · revert y
                           cases q3 : zta n t k3 (zoq n t k3) with
                           | inl e1 => intro y; cases y
                           | inr k4 =>
                             intro y
                             have c4 := zta_b hby c3 q3
                             have y : (zbd (zta n t k4 (zoh n t k4)) fun k5 => _) = _ := y
                             revert y
                             cases q4 : zta n t k4 (zoh n t k4) with
                             | inl e1 => intro y; cases y
                             | inr k5 =>
                               intro y
                               have c5 := zta_b hby c4 q4
                               have y := Sum.inr.inj y
                               rw [← y]
                               exact c5
                         · have y := Sum.inr.inj y
                           rw [← y]
                           exact c3)
                  | (unfold zsay at y
                     revert y
                     cases q1 : zta n t k1 (zoh n t k1) with
                     | inl e1 => intro y; cases y
                     | inr k2 =>
                       intro y
                       have c2 := zta_b hby hb1 q1
                       have y := Sum.inr.inj y
                       rw [← y]
                       exact c2)
                refine s_173 ((ht2.fr hF1).G hF2) hk2 hbr (fun k3 z3 h5 hF3 g23 g33 hk3 => ?_) (fun e z h9 hF9 g29 g39 => ?_)
                · refine And.intro (fun c => absurd c (by decide)) (fun _ => ?_)
                  refine And.intro (by omega) ?_
                  have hst : zstep n t k7 = .inr (k3, r.2) := by
                    unfold zstep
                    rw [zbd_r z1]
                    first
                    | (rw [if_pos (zwbb_iff.mpr w4), zbd_r z2, zbd_r z3])
                    | (rw [if_neg (by rw [zwbb_f.mpr w4]; decide), zbd_r z2, zbd_r z3])
                  rw [zbd_r hst, ← hf8] at hz
                  exact ⟨30 - (i7 + 1), by omega, rfl, rfl, i7 + 1, m7 + 1, _, k3, _, rfl, rfl, by omega, hz, hi2.T hF3, hk3, zta_b hby hbr z3, ((hF.tr (zGf_T hF1)).tr hF2).tr (zGf_T hF3), ((g23.trans g22).trans g21).trans g2, ((g33.trans g32).trans g31).trans g3⟩
                · refine And.intro (fun _ => ?_) (fun c => absurd (by decide) c)
                  refine And.intro (by first | exact Or.inl rfl | exact Or.inr rfl | omega) ?_
                  first
                  | (rw [zsteps_n (zwbb_f.mpr w2) (zwbb_f.mpr w3)] at hz
                     exact h1 _ i7 hz _ hF g2 g3 hk7 hb7 hi)
                  | (have hst : zstep n t k7 = .inl e := by
                       unfold zstep
                       rw [zbd_r z1]
                       first
                       | (rw [if_pos (zwbb_iff.mpr w4), zbd_r z2, zbd_l z])
                       | (rw [if_neg (by rw [zwbb_f.mpr w4]; decide), zbd_r z2, zbd_l z])
                     rw [zbd_l hst] at hz
                     exact h0 _ hz _ (((hF.tr (zGf_T hF1)).tr hF2).tr (zGf_T hF9)) g29 g39)
                  | (have hst : zstep n t k7 = .inl e := by
                       unfold zstep
                       rw [zbd_r z1]
                       first
                       | (rw [if_pos (zwbb_iff.mpr w4), zbd_l z])
                       | (rw [if_neg (by rw [zwbb_f.mpr w4]; decide), zbd_l z])
                     rw [zbd_l hst] at hz
                     exact h0 _ hz _ ((hF.tr (zGf_T hF1)).tr hF9) g29 g39)
                  | (have hst : zstep n t k7 = .inl e := by
                       unfold zstep
                       rw [zbd_l z]
                     rw [zbd_l hst] at hz
                     exact h0 _ hz _ (hF.tr (zGf_T hF9)) g29 g39)
                  | (rw [if_pos (by omega)] at hz
                     exact h0 _ hz _ ((hF.st rfl).st rfl) (by rw [zst_ne (by decide), zst_eq]) (by rw [zst_eq]; exact k75))
              · refine And.intro (fun _ => ?_) (fun c => absurd (by decide) c)
                refine And.intro (by first | exact Or.inl rfl | exact Or.inr rfl | omega) ?_
                first
                | (rw [zsteps_n (zwbb_f.mpr w2) (zwbb_f.mpr w3)] at hz
                   exact h1 _ i7 hz _ hF g2 g3 hk7 hb7 hi)
                | (have hst : zstep n t k7 = .inl e := by
                     unfold zstep
                     rw [zbd_r z1]
                     first
                     | (rw [if_pos (zwbb_iff.mpr w4), zbd_r z2, zbd_l z])
                     | (rw [if_neg (by rw [zwbb_f.mpr w4]; decide), zbd_r z2, zbd_l z])
                   rw [zbd_l hst] at hz
                   exact h0 _ hz _ (((hF.tr (zGf_T hF1)).tr hF2).tr (zGf_T hF9)) g29 g39)
                | (have hst : zstep n t k7 = .inl e := by
                     unfold zstep
                     rw [zbd_r z1]
                     first
                     | (rw [if_pos (zwbb_iff.mpr w4), zbd_l z])
                     | (rw [if_neg (by rw [zwbb_f.mpr w4]; decide), zbd_l z])
                   rw [zbd_l hst] at hz
                   exact h0 _ hz _ ((hF.tr (zGf_T hF1)).tr hF9) g29 g39)
                | (have hst : zstep n t k7 = .inl e := by
                     unfold zstep
                     rw [zbd_l z]
                   rw [zbd_l hst] at hz
                   exact h0 _ hz _ (hF.tr (zGf_T hF9)) g29 g39)
                | (rw [if_pos (by omega)] at hz
                   exact h0 _ hz _ ((hF.st rfl).st rfl) (by rw [zst_ne (by decide), zst_eq]) (by rw [zst_eq]; exact k75))
            · refine And.intro (fun _ => ?_) (fun c => absurd (by decide) c)
              refine And.intro (by first | exact Or.inl rfl | exact Or.inr rfl | omega) ?_
              first
              | (rw [zsteps_n (zwbb_f.mpr w2) (zwbb_f.mpr w3)] at hz
                 exact h1 _ i7 hz _ hF g2 g3 hk7 hb7 hi)
              | (have hst : zstep n t k7 = .inl e := by
                   unfold zstep
                   rw [zbd_r z1]
                   first
                   | (rw [if_pos (zwbb_iff.mpr w4), zbd_r z2, zbd_l z])
                   | (rw [if_neg (by rw [zwbb_f.mpr w4]; decide), zbd_r z2, zbd_l z])
                 rw [zbd_l hst] at hz
                 exact h0 _ hz _ (((hF.tr (zGf_T hF1)).tr hF2).tr (zGf_T hF9)) g29 g39)
              | (have hst : zstep n t k7 = .inl e := by
                   unfold zstep
                   rw [zbd_r z1]
                   first
                   | (rw [if_pos (zwbb_iff.mpr w4), zbd_l z])
                   | (rw [if_neg (by rw [zwbb_f.mpr w4]; decide), zbd_l z])
                 rw [zbd_l hst] at hz
                 exact h0 _ hz _ ((hF.tr (zGf_T hF1)).tr hF9) g29 g39)
              | (have hst : zstep n t k7 = .inl e := by
                   unfold zstep
                   rw [zbd_l z]
                 rw [zbd_l hst] at hz
                 exact h0 _ hz _ (hF.tr (zGf_T hF9)) g29 g39)
              | (rw [if_pos (by omega)] at hz
                 exact h0 _ hz _ ((hF.st rfl).st rfl) (by rw [zst_ne (by decide), zst_eq]) (by rw [zst_eq]; exact k75))
        · intro c3
          refine s_164 ?_
          refine And.intro (by first | exact Or.inl rfl | exact Or.inr rfl | omega) ?_
          first
          | (rw [zsteps_n (zwbb_f.mpr w2) (zwbb_f.mpr w3)] at hz
             exact h1 _ i7 hz _ hF g2 g3 hk7 hb7 hi)
          | (have hst : zstep n t k7 = .inl e := by
               unfold zstep
               rw [zbd_r z1]
               first
               | (rw [if_pos (zwbb_iff.mpr w4), zbd_r z2, zbd_l z])
               | (rw [if_neg (by rw [zwbb_f.mpr w4]; decide), zbd_r z2, zbd_l z])
             rw [zbd_l hst] at hz
             exact h0 _ hz _ (((hF.tr (zGf_T hF1)).tr hF2).tr (zGf_T hF9)) g29 g39)
          | (have hst : zstep n t k7 = .inl e := by
               unfold zstep
               rw [zbd_r z1]
               first
               | (rw [if_pos (zwbb_iff.mpr w4), zbd_l z])
               | (rw [if_neg (by rw [zwbb_f.mpr w4]; decide), zbd_l z])
             rw [zbd_l hst] at hz
             exact h0 _ hz _ ((hF.tr (zGf_T hF1)).tr hF9) g29 g39)
          | (have hst : zstep n t k7 = .inl e := by
               unfold zstep
               rw [zbd_l z]
             rw [zbd_l hst] at hz
             exact h0 _ hz _ (hF.tr (zGf_T hF9)) g29 g39)
          | (rw [if_pos (by omega)] at hz
             exact h0 _ hz _ ((hF.st rfl).st rfl) (by rw [zst_ne (by decide), zst_eq]) (by rw [zst_eq]; exact k75))
      · refine And.intro (fun _ => ?_) (fun c => absurd (by decide) c)
        refine And.intro (by first | exact Or.inl rfl | exact Or.inr rfl | omega) ?_
        first
        | (rw [zsteps_n (zwbb_f.mpr w2) (zwbb_f.mpr w3)] at hz
           exact h1 _ i7 hz _ hF g2 g3 hk7 hb7 hi)
        | (have hst : zstep n t k7 = .inl e := by
             unfold zstep
             rw [zbd_r z1]
             first
             | (rw [if_pos (zwbb_iff.mpr w4), zbd_r z2, zbd_l z])
             | (rw [if_neg (by rw [zwbb_f.mpr w4]; decide), zbd_r z2, zbd_l z])
           rw [zbd_l hst] at hz
           exact h0 _ hz _ (((hF.tr (zGf_T hF1)).tr hF2).tr (zGf_T hF9)) g29 g39)
        | (have hst : zstep n t k7 = .inl e := by
             unfold zstep
             rw [zbd_r z1]
             first
             | (rw [if_pos (zwbb_iff.mpr w4), zbd_l z])
             | (rw [if_neg (by rw [zwbb_f.mpr w4]; decide), zbd_l z])
           rw [zbd_l hst] at hz
           exact h0 _ hz _ ((hF.tr (zGf_T hF1)).tr hF9) g29 g39)
        | (have hst : zstep n t k7 = .inl e := by
             unfold zstep
             rw [zbd_l z]
           rw [zbd_l hst] at hz
           exact h0 _ hz _ (hF.tr (zGf_T hF9)) g29 g39)
        | (rw [if_pos (by omega)] at hz
           exact h0 _ hz _ ((hF.st rfl).st rfl) (by rw [zst_ne (by decide), zst_eq]) (by rw [zst_eq]; exact k75))
set_option maxHeartbeats 4000000 in
set_option maxRecDepth 100000 in
/-- Reader.leadsToBlocks -/
theorem s_180 {h : zM} {D : zD} (hd : zDc h D) {Q : zQ} (h1 : zwhole D D.1 = true → Q (some (.inl 1)) h) (h0 : zwhole D D.1 = false → Q (some (.inl 0)) (zx_st (zx_st h 1 2 6) 1 3 (h 2 1))) : zR 180 [.inr (.inr 1)] h Q := by
  obtain ⟨d1, d2, d3, d4, d5, d6⟩ := hd
  refine zx_met zk_180 (Or.inr ⟨_, _, rfl, rfl⟩) (Nat.le_of_ble_eq_true rfl) (fun _ => false) 1000 (fun m j L S h2 => j = 2 ∧ S = [] ∧ h2 = h ∧ ∃ p7 : Nat, L = [some (.inr (.inr 1)), some (.inl (p7 : Int))] ∧ p7 ≤ D.1 ∧ m = D.1 - p7 ∧ zwhole D p7 = true) (fun hok hM => ?_) (fun hok hM => ?_)
  · exact ⟨_, rfl, rfl, rfl, 0, rfl, by omega, rfl, rfl⟩
  · rintro m j L S h2 hM2 ⟨rfl, rfl, rfl, p7, rfl, hp, hm, hz⟩
    constructor
    · intro c1
      have e3 : h2 8 (p7 : Int) = D.2.1 p7 3 := d3 p7 3 (by omega) (by omega)
      have e4 : h2 9 (p7 : Int) = D.2.1 p7 4 := d3 p7 4 (by omega) (by omega)
      refine And.intro (by show 0 ≤ _ ∧ _ < (8 : Int); omega) ?_
      constructor
      · intro c2
        refine And.intro (by show 0 ≤ _ ∧ _ < (8 : Int); omega) ?_
        constructor
        · intro c3
          refine And.intro (by omega) ?_
          refine ⟨D.1 - (p7 + 1), by omega, rfl, rfl, rfl, p7 + 1, rfl, by omega, rfl, ?_⟩
          show (zwhole D p7 && decide (D.2.1 p7 3 < (D.1 : Int)) && decide (D.2.1 p7 4 < (D.1 : Int))) = true
          rw [hz, decide_eq_true (show D.2.1 p7 3 < (D.1 : Int) by omega), decide_eq_true (show D.2.1 p7 4 < (D.1 : Int) by omega)]
          rfl
        · intro c3
          refine s_164 ?_
          refine And.intro (by first | exact Or.inl rfl | exact Or.inr rfl | omega) ?_
          first
          | (refine h0 ?_
             have key : ∀ q, p7 < q → zwhole D q = false := by
               intro q
               induction q with
               | zero => intro h; omega
               | succ q ih =>
                 intro hq
                 show (zwhole D q && decide (D.2.1 q 3 < (D.1 : Int)) && decide (D.2.1 q 4 < (D.1 : Int))) = false
                 by_cases e : q = p7
                 · subst e
                   first
                   | (rw [decide_eq_false (show ¬ D.2.1 q 3 < (D.1 : Int) by omega)]; simp)
                   | (rw [decide_eq_false (show ¬ D.2.1 q 4 < (D.1 : Int) by omega)]; simp)
                 · rw [ih (by omega)]; rfl
             exact key D.1 (by omega))
          | (have pn : p7 = D.1 := by omega
             rw [pn] at hz
             exact h1 hz)
      · intro c2
        refine s_164 ?_
        refine And.intro (by first | exact Or.inl rfl | exact Or.inr rfl | omega) ?_
        first
        | (refine h0 ?_
           have key : ∀ q, p7 < q → zwhole D q = false := by
             intro q
             induction q with
             | zero => intro h; omega
             | succ q ih =>
               intro hq
               show (zwhole D q && decide (D.2.1 q 3 < (D.1 : Int)) && decide (D.2.1 q 4 < (D.1 : Int))) = false
               by_cases e : q = p7
               · subst e
                 first
                 | (rw [decide_eq_false (show ¬ D.2.1 q 3 < (D.1 : Int) by omega)]; simp)
                 | (rw [decide_eq_false (show ¬ D.2.1 q 4 < (D.1 : Int) by omega)]; simp)
               · rw [ih (by omega)]; rfl
           exact key D.1 (by omega))
        | (have pn : p7 = D.1 := by omega
           rw [pn] at hz
           exact h1 hz)
    · intro c1
      refine And.intro (by first | exact Or.inl rfl | exact Or.inr rfl | omega) ?_
      first
      | (refine h0 ?_
         have key : ∀ q, p7 < q → zwhole D q = false := by
           intro q
           induction q with
           | zero => intro h; omega
           | succ q ih =>
             intro hq
             show (zwhole D q && decide (D.2.1 q 3 < (D.1 : Int)) && decide (D.2.1 q 4 < (D.1 : Int))) = false
             by_cases e : q = p7
             · subst e
               first
               | (rw [decide_eq_false (show ¬ D.2.1 q 3 < (D.1 : Int) by omega)]; simp)
               | (rw [decide_eq_false (show ¬ D.2.1 q 4 < (D.1 : Int) by omega)]; simp)
             · rw [ih (by omega)]; rfl
         exact key D.1 (by omega))
      | (have pn : p7 = D.1 := by omega
         rw [pn] at hz
         exact h1 hz)
set_option maxHeartbeats 4000000 in
set_option maxRecDepth 100000 in
/-- Reader.takesTape -/
theorem s_163 {h : zM} {n : Nat} {t : Nat → Int} (ht : zTp h n t) {Q : zQ} (h1 : ∀ D, ztext n t = .inr D → ∀ h2, zF zGf h h2 → h2 1 2 = 0 → zDc h2 D → Q (some (.inl 1)) h2) (h0 : ∀ e, ztext n t = .inl e → ∀ h2, zF zGf h h2 → h2 1 2 = e.1 → h2 1 3 = (e.2 : Int) → Q (some (.inl 0)) h2) : zR 163 [.inr (.inr 1)] h Q := by
  have hby := fun i (hi : i < n) => (ht.2.2 i hi).2
  have n320 := ht.2.1
  refine zx_met zk_163 (Or.inr ⟨_, _, rfl, rfl⟩) (Nat.le_of_ble_eq_true rfl) (fun x => Nat.beq x 12) 1000 (fun m j L S h2 => (j = 12 ∧ S = [] ∧ ∃ q1 : Option zV, L = [some (.inr (.inr 1)), q1] ∧ m = 100 ∧ zF zGf h h2 ∧ h2 1 2 = 0 ∧ h2 1 6 = ((0 : Nat) : Int) ∧ zDc h2 zD0) ∨
    (j = 19 ∧ S = [] ∧ ∃ (i7 : Nat) (k7 : zTk) (D7 : zD), L = [some (.inr (.inr 1)), some (.inl (i7 : Int))] ∧ i7 ≤ 9 ∧ D7.1 = i7 ∧ m = 20 - i7 ∧ zF zGf h h2 ∧ h2 1 2 = 0 ∧ zTc h2 k7 ∧ zTb n k7 ∧ zDc h2 D7 ∧ ztext n t = zbd (zblocks n t (9 - i7) k7 D7) fun r => if zwhole r.2 r.2.1 = true then .inr r.2 else .inl (6, n))) (fun hok hM => ?_) (fun hok hM => ?_)
  · refine s_191 (by unfold zWb; omega) ?_
    refine ⟨_, Or.inl ⟨rfl, rfl, _, rfl, rfl, ((((zF.rf.st rfl).st rfl).st rfl).st rfl).st rfl, ?_, ?_, ?_, ?_, fun p w hp hw => absurd hp (Nat.not_lt_zero _), fun i w hi hw => absurd hi (Nat.not_lt_zero _), by decide, by decide⟩⟩
    all_goals simp [zx_st, zD0]
  · rintro n0 i0 L S h2 hM2 (hI | hI)
    · obtain ⟨rfl, rfl, q1, rfl, hm, hF, g2, g6, hd⟩ := hI
      have ht2 := ht.G hF
      refine s_165 ht2 (Nat.zero_le _) g6 (fun k1 z1 h3 hF1 g21 g31 hk1 => ?_) (fun e z h9 hF9 g29 g39 => ?_)
      · refine And.intro (fun c => absurd c (by decide)) (fun _ => ?_)
        first
        | (refine ⟨20 - 0, by omega, Or.inr ⟨rfl, rfl, 0, k1, zD0, rfl, by omega, rfl, rfl, hF.tr (zGf_T hF1), g21.trans g2, hk1, ztk_b hby (Nat.zero_le _) z1, hd.T hF1, ?_⟩⟩
           unfold ztext
           rw [zbd_r z1])
        | (obtain ⟨f7, hf7⟩ : ∃ f7, 9 - i7 = f7 + 1 := ⟨8 - i7, by omega⟩
           have hf8 : 9 - (i7 + 1) = f7 := by omega
           have hbk := zblock_e wa da za zb
           rw [zbd_r zc] at hbk
           unfold zbrest at hbk
           rw [zbd_r ze, zbd_r zf] at hbk
           rw [hf7, zblocks, if_neg (by omega), zbd_r hbk, ← hf8] at hz
           exact ⟨20 - (i7 + 1), by omega, Or.inr ⟨rfl, rfl, i7 + 1, kf, _, rfl, by omega, by show D7.1 + 1 = i7 + 1; omega, rfl, (((hF.tr hFb).tr hFc).tr hFe).tr (zGf_T hFf), (((g2f.trans g2e).trans g2c).trans g2b).trans g2, hkf, zta_b hby hbe zf, (hie.T hFf).D, hz⟩⟩)
      · refine And.intro (fun _ => ?_) (fun c => absurd (by decide) c)
        refine And.intro (by first | exact Or.inl rfl | exact Or.inr rfl | omega) ?_
        first
        | (refine h0 e ?_ _ (hF.tr (zGf_T hF9)) g29 g39
           unfold ztext
           exact zbd_l z)
        | (obtain ⟨f7, hf7⟩ : ∃ f7, 9 - i7 = f7 + 1 := ⟨8 - i7, by omega⟩
           rw [hf7, zblocks, if_neg (by omega), zbd_l z] at hz
           exact h0 e hz _ (hF.tr hF9) g29 g39)
        | (obtain ⟨f7, hf7⟩ : ∃ f7, 9 - i7 = f7 + 1 := ⟨8 - i7, by omega⟩
           have hbk : zblock n t k7 D7 = .inl e := by
             rw [zblock_e wa da za zb, zbd_l z]
           rw [hf7, zblocks, if_neg (by omega), zbd_l hbk] at hz
           exact h0 e hz _ ((hF.tr hFb).tr hF9) g29 g39)
        | (obtain ⟨f7, hf7⟩ : ∃ f7, 9 - i7 = f7 + 1 := ⟨8 - i7, by omega⟩
           have hbk : zblock n t k7 D7 = .inl e := by
             rw [zblock_e wa da za zb, zbd_r zc]
             unfold zbrest
             rw [zbd_l z]
           rw [hf7, zblocks, if_neg (by omega), zbd_l hbk] at hz
           exact h0 e hz _ (((hF.tr hFb).tr hFc).tr hF9) g29 g39)
        | (obtain ⟨f7, hf7⟩ : ∃ f7, 9 - i7 = f7 + 1 := ⟨8 - i7, by omega⟩
           have hbk : zblock n t k7 D7 = .inl e := by
             rw [zblock_e wa da za zb, zbd_r zc]
             unfold zbrest
             rw [zbd_r ze, zbd_l z]
           rw [hf7, zblocks, if_neg (by omega), zbd_l hbk] at hz
           exact h0 e hz _ ((((hF.tr hFb).tr hFc).tr hFe).tr (zGf_T hF9)) g29 g39)
        | (have hz : ztext n t = if zwhole D7 D7.1 = true then .inr D7 else .inl (6, n) := hz
           rw [if_pos w1] at hz
           exact h1 _ hz _ hF g2 hd)
        | (have hz : ztext n t = if zwhole D7 D7.1 = true then .inr D7 else .inl (6, n) := hz
           rw [if_neg (by rw [w1]; decide)] at hz
           exact h0 _ hz _ ((hF.st rfl).st rfl) (by rw [zst_ne (by decide), zst_eq]) (by rw [zst_eq]; exact ht2.1))
    · obtain ⟨rfl, rfl, i7, k7, D7, rfl, hi7, hD7, hm, hF, g2, hk7, hb7, hd, hz⟩ := hI
      have ht2 := ht.G hF
      have s4 := hk7.2.2.1
      have d8 := hd.2.2.2.2.1
      constructor
      · intro c1
        have hbl : zblocks n t (9 - i7) k7 D7 = .inr (k7, D7) := by
          cases e : 9 - i7 with
          | zero => rfl
          | succ f => rw [zblocks, if_pos (by omega)]
        rw [zbd_r hbl] at hz
        refine s_180 hd (fun w1 => ?_) (fun w1 => ?_)
        · refine And.intro (by first | exact Or.inl rfl | exact Or.inr rfl | omega) ?_
          first
          | (refine h0 e ?_ _ (hF.tr (zGf_T hF9)) g29 g39
             unfold ztext
             exact zbd_l z)
          | (obtain ⟨f7, hf7⟩ : ∃ f7, 9 - i7 = f7 + 1 := ⟨8 - i7, by omega⟩
             rw [hf7, zblocks, if_neg (by omega), zbd_l z] at hz
             exact h0 e hz _ (hF.tr hF9) g29 g39)
          | (obtain ⟨f7, hf7⟩ : ∃ f7, 9 - i7 = f7 + 1 := ⟨8 - i7, by omega⟩
             have hbk : zblock n t k7 D7 = .inl e := by
               rw [zblock_e wa da za zb, zbd_l z]
             rw [hf7, zblocks, if_neg (by omega), zbd_l hbk] at hz
             exact h0 e hz _ ((hF.tr hFb).tr hF9) g29 g39)
          | (obtain ⟨f7, hf7⟩ : ∃ f7, 9 - i7 = f7 + 1 := ⟨8 - i7, by omega⟩
             have hbk : zblock n t k7 D7 = .inl e := by
               rw [zblock_e wa da za zb, zbd_r zc]
               unfold zbrest
               rw [zbd_l z]
             rw [hf7, zblocks, if_neg (by omega), zbd_l hbk] at hz
             exact h0 e hz _ (((hF.tr hFb).tr hFc).tr hF9) g29 g39)
          | (obtain ⟨f7, hf7⟩ : ∃ f7, 9 - i7 = f7 + 1 := ⟨8 - i7, by omega⟩
             have hbk : zblock n t k7 D7 = .inl e := by
               rw [zblock_e wa da za zb, zbd_r zc]
               unfold zbrest
               rw [zbd_r ze, zbd_l z]
             rw [hf7, zblocks, if_neg (by omega), zbd_l hbk] at hz
             exact h0 e hz _ ((((hF.tr hFb).tr hFc).tr hFe).tr (zGf_T hF9)) g29 g39)
          | (have hz : ztext n t = if zwhole D7 D7.1 = true then .inr D7 else .inl (6, n) := hz
             rw [if_pos w1] at hz
             exact h1 _ hz _ hF g2 hd)
          | (have hz : ztext n t = if zwhole D7 D7.1 = true then .inr D7 else .inl (6, n) := hz
             rw [if_neg (by rw [w1]; decide)] at hz
             exact h0 _ hz _ ((hF.st rfl).st rfl) (by rw [zst_ne (by decide), zst_eq]) (by rw [zst_eq]; exact ht2.1))
        · refine And.intro (by first | exact Or.inl rfl | exact Or.inr rfl | omega) ?_
          first
          | (refine h0 e ?_ _ (hF.tr (zGf_T hF9)) g29 g39
             unfold ztext
             exact zbd_l z)
          | (obtain ⟨f7, hf7⟩ : ∃ f7, 9 - i7 = f7 + 1 := ⟨8 - i7, by omega⟩
             rw [hf7, zblocks, if_neg (by omega), zbd_l z] at hz
             exact h0 e hz _ (hF.tr hF9) g29 g39)
          | (obtain ⟨f7, hf7⟩ : ∃ f7, 9 - i7 = f7 + 1 := ⟨8 - i7, by omega⟩
             have hbk : zblock n t k7 D7 = .inl e := by
               rw [zblock_e wa da za zb, zbd_l z]
             rw [hf7, zblocks, if_neg (by omega), zbd_l hbk] at hz
             exact h0 e hz _ ((hF.tr hFb).tr hF9) g29 g39)
          | (obtain ⟨f7, hf7⟩ : ∃ f7, 9 - i7 = f7 + 1 := ⟨8 - i7, by omega⟩
             have hbk : zblock n t k7 D7 = .inl e := by
               rw [zblock_e wa da za zb, zbd_r zc]
               unfold zbrest
               rw [zbd_l z]
             rw [hf7, zblocks, if_neg (by omega), zbd_l hbk] at hz
             exact h0 e hz _ (((hF.tr hFb).tr hFc).tr hF9) g29 g39)
          | (obtain ⟨f7, hf7⟩ : ∃ f7, 9 - i7 = f7 + 1 := ⟨8 - i7, by omega⟩
             have hbk : zblock n t k7 D7 = .inl e := by
               rw [zblock_e wa da za zb, zbd_r zc]
               unfold zbrest
               rw [zbd_r ze, zbd_l z]
             rw [hf7, zblocks, if_neg (by omega), zbd_l hbk] at hz
             exact h0 e hz _ ((((hF.tr hFb).tr hFc).tr hFe).tr (zGf_T hF9)) g29 g39)
          | (have hz : ztext n t = if zwhole D7 D7.1 = true then .inr D7 else .inl (6, n) := hz
             rw [if_pos w1] at hz
             exact h1 _ hz _ hF g2 hd)
          | (have hz : ztext n t = if zwhole D7 D7.1 = true then .inr D7 else .inl (6, n) := hz
             rw [if_neg (by rw [w1]; decide)] at hz
             exact h0 _ hz _ ((hF.st rfl).st rfl) (by rw [zst_ne (by decide), zst_eq]) (by rw [zst_eq]; exact ht2.1))
      · intro c1
        constructor
        · intro c2
          have hbl : zblocks n t (9 - i7) k7 D7 = .inr (k7, D7) := by
            cases e : 9 - i7 with
            | zero => rfl
            | succ f => rw [zblocks, if_pos (by omega)]
          rw [zbd_r hbl] at hz
          refine s_180 hd (fun w1 => ?_) (fun w1 => ?_)
          · refine And.intro (by first | exact Or.inl rfl | exact Or.inr rfl | omega) ?_
            first
            | (refine h0 e ?_ _ (hF.tr (zGf_T hF9)) g29 g39
               unfold ztext
               exact zbd_l z)
            | (obtain ⟨f7, hf7⟩ : ∃ f7, 9 - i7 = f7 + 1 := ⟨8 - i7, by omega⟩
               rw [hf7, zblocks, if_neg (by omega), zbd_l z] at hz
               exact h0 e hz _ (hF.tr hF9) g29 g39)
            | (obtain ⟨f7, hf7⟩ : ∃ f7, 9 - i7 = f7 + 1 := ⟨8 - i7, by omega⟩
               have hbk : zblock n t k7 D7 = .inl e := by
                 rw [zblock_e wa da za zb, zbd_l z]
               rw [hf7, zblocks, if_neg (by omega), zbd_l hbk] at hz
               exact h0 e hz _ ((hF.tr hFb).tr hF9) g29 g39)
            | (obtain ⟨f7, hf7⟩ : ∃ f7, 9 - i7 = f7 + 1 := ⟨8 - i7, by omega⟩
               have hbk : zblock n t k7 D7 = .inl e := by
                 rw [zblock_e wa da za zb, zbd_r zc]
                 unfold zbrest
                 rw [zbd_l z]
               rw [hf7, zblocks, if_neg (by omega), zbd_l hbk] at hz
               exact h0 e hz _ (((hF.tr hFb).tr hFc).tr hF9) g29 g39)
            | (obtain ⟨f7, hf7⟩ : ∃ f7, 9 - i7 = f7 + 1 := ⟨8 - i7, by omega⟩
               have hbk : zblock n t k7 D7 = .inl e := by
                 rw [zblock_e wa da za zb, zbd_r zc]
                 unfold zbrest
                 rw [zbd_r ze, zbd_l z]
               rw [hf7, zblocks, if_neg (by omega), zbd_l hbk] at hz
               exact h0 e hz _ ((((hF.tr hFb).tr hFc).tr hFe).tr (zGf_T hF9)) g29 g39)
            | (have hz : ztext n t = if zwhole D7 D7.1 = true then .inr D7 else .inl (6, n) := hz
               rw [if_pos w1] at hz
               exact h1 _ hz _ hF g2 hd)
            | (have hz : ztext n t = if zwhole D7 D7.1 = true then .inr D7 else .inl (6, n) := hz
               rw [if_neg (by rw [w1]; decide)] at hz
               exact h0 _ hz _ ((hF.st rfl).st rfl) (by rw [zst_ne (by decide), zst_eq]) (by rw [zst_eq]; exact ht2.1))
          · refine And.intro (by first | exact Or.inl rfl | exact Or.inr rfl | omega) ?_
            first
            | (refine h0 e ?_ _ (hF.tr (zGf_T hF9)) g29 g39
               unfold ztext
               exact zbd_l z)
            | (obtain ⟨f7, hf7⟩ : ∃ f7, 9 - i7 = f7 + 1 := ⟨8 - i7, by omega⟩
               rw [hf7, zblocks, if_neg (by omega), zbd_l z] at hz
               exact h0 e hz _ (hF.tr hF9) g29 g39)
            | (obtain ⟨f7, hf7⟩ : ∃ f7, 9 - i7 = f7 + 1 := ⟨8 - i7, by omega⟩
               have hbk : zblock n t k7 D7 = .inl e := by
                 rw [zblock_e wa da za zb, zbd_l z]
               rw [hf7, zblocks, if_neg (by omega), zbd_l hbk] at hz
               exact h0 e hz _ ((hF.tr hFb).tr hF9) g29 g39)
            | (obtain ⟨f7, hf7⟩ : ∃ f7, 9 - i7 = f7 + 1 := ⟨8 - i7, by omega⟩
               have hbk : zblock n t k7 D7 = .inl e := by
                 rw [zblock_e wa da za zb, zbd_r zc]
                 unfold zbrest
                 rw [zbd_l z]
               rw [hf7, zblocks, if_neg (by omega), zbd_l hbk] at hz
               exact h0 e hz _ (((hF.tr hFb).tr hFc).tr hF9) g29 g39)
            | (obtain ⟨f7, hf7⟩ : ∃ f7, 9 - i7 = f7 + 1 := ⟨8 - i7, by omega⟩
               have hbk : zblock n t k7 D7 = .inl e := by
                 rw [zblock_e wa da za zb, zbd_r zc]
                 unfold zbrest
                 rw [zbd_r ze, zbd_l z]
               rw [hf7, zblocks, if_neg (by omega), zbd_l hbk] at hz
               exact h0 e hz _ ((((hF.tr hFb).tr hFc).tr hFe).tr (zGf_T hF9)) g29 g39)
            | (have hz : ztext n t = if zwhole D7 D7.1 = true then .inr D7 else .inl (6, n) := hz
               rw [if_pos w1] at hz
               exact h1 _ hz _ hF g2 hd)
            | (have hz : ztext n t = if zwhole D7 D7.1 = true then .inr D7 else .inl (6, n) := hz
               rw [if_neg (by rw [w1]; decide)] at hz
               exact h0 _ hz _ ((hF.st rfl).st rfl) (by rw [zst_ne (by decide), zst_eq]) (by rw [zst_eq]; exact ht2.1))
        · intro c2
          refine s_174 ht2 hk7 hb7 hd (fun ka kb wa da za zb hm3 hFb g2b g3b hkb hbb hib => ?_) (fun e z h9 hF9 g29 g39 => ?_)
          · refine And.intro (fun c => absurd c (by decide)) (fun _ => ?_)
            have ht3 := ht2.G hFb
            refine s_204 ht3 hkb hbb hib (fun rc cc zc hm4 hFc g2c g3c hkc hbc hic => ?_) (fun e z h9 hF9 g29 g39 => ?_)
            · refine And.intro (fun c => absurd c (by decide)) (fun _ => ?_)
              have ht4 := ht3.G hFc
              refine s_177 ht4 hkc hbc hic (fun re ze hm5 hFe g2e g3e hke hie => ?_) (fun e z h9 hF9 g29 g39 => ?_)
              · refine And.intro (fun c => absurd c (by decide)) (fun _ => ?_)
                have hbe := (zendp_b hby hbc ze).1
                refine s_173 (ht4.G hFe) hke hbe (fun kf zf hm6 hFf g2f g3f hkf => ?_) (fun e z h9 hF9 g29 g39 => ?_)
                · refine And.intro (fun c => absurd c (by decide)) (fun _ => ?_)
                  refine And.intro (by omega) ?_
                  first
                  | (refine ⟨20 - 0, by omega, Or.inr ⟨rfl, rfl, 0, k1, zD0, rfl, by omega, rfl, rfl, hF.tr (zGf_T hF1), g21.trans g2, hk1, ztk_b hby (Nat.zero_le _) z1, hd.T hF1, ?_⟩⟩
                     unfold ztext
                     rw [zbd_r z1])
                  | (obtain ⟨f7, hf7⟩ : ∃ f7, 9 - i7 = f7 + 1 := ⟨8 - i7, by omega⟩
                     have hf8 : 9 - (i7 + 1) = f7 := by omega
                     have hbk := zblock_e wa da za zb
                     rw [zbd_r zc] at hbk
                     unfold zbrest at hbk
                     rw [zbd_r ze, zbd_r zf] at hbk
                     rw [hf7, zblocks, if_neg (by omega), zbd_r hbk, ← hf8] at hz
                     exact ⟨20 - (i7 + 1), by omega, Or.inr ⟨rfl, rfl, i7 + 1, kf, _, rfl, by omega, by show D7.1 + 1 = i7 + 1; omega, rfl, (((hF.tr hFb).tr hFc).tr hFe).tr (zGf_T hFf), (((g2f.trans g2e).trans g2c).trans g2b).trans g2, hkf, zta_b hby hbe zf, (hie.T hFf).D, hz⟩⟩)
                · refine And.intro (fun _ => ?_) (fun c => absurd (by decide) c)
                  refine And.intro (by first | exact Or.inl rfl | exact Or.inr rfl | omega) ?_
                  first
                  | (refine h0 e ?_ _ (hF.tr (zGf_T hF9)) g29 g39
                     unfold ztext
                     exact zbd_l z)
                  | (obtain ⟨f7, hf7⟩ : ∃ f7, 9 - i7 = f7 + 1 := ⟨8 - i7, by omega⟩
                     rw [hf7, zblocks, if_neg (by omega), zbd_l z] at hz
                     exact h0 e hz _ (hF.tr hF9) g29 g39)
                  | (obtain ⟨f7, hf7⟩ : ∃ f7, 9 - i7 = f7 + 1 := ⟨8 - i7, by omega⟩
                     have hbk : zblock n t k7 D7 = .inl e := by
                       rw [zblock_e wa da za zb, zbd_l z]
                     rw [hf7, zblocks, if_neg (by omega), zbd_l hbk] at hz
                     exact h0 e hz _ ((hF.tr hFb).tr hF9) g29 g39)
                  | (obtain ⟨f7, hf7⟩ : ∃ f7, 9 - i7 = f7 + 1 := ⟨8 - i7, by omega⟩
                     have hbk : zblock n t k7 D7 = .inl e := by
                       rw [zblock_e wa da za zb, zbd_r zc]
                       unfold zbrest
                       rw [zbd_l z]
                     rw [hf7, zblocks, if_neg (by omega), zbd_l hbk] at hz
                     exact h0 e hz _ (((hF.tr hFb).tr hFc).tr hF9) g29 g39)
                  | (obtain ⟨f7, hf7⟩ : ∃ f7, 9 - i7 = f7 + 1 := ⟨8 - i7, by omega⟩
                     have hbk : zblock n t k7 D7 = .inl e := by
                       rw [zblock_e wa da za zb, zbd_r zc]
                       unfold zbrest
                       rw [zbd_r ze, zbd_l z]
                     rw [hf7, zblocks, if_neg (by omega), zbd_l hbk] at hz
                     exact h0 e hz _ ((((hF.tr hFb).tr hFc).tr hFe).tr (zGf_T hF9)) g29 g39)
                  | (have hz : ztext n t = if zwhole D7 D7.1 = true then .inr D7 else .inl (6, n) := hz
                     rw [if_pos w1] at hz
                     exact h1 _ hz _ hF g2 hd)
                  | (have hz : ztext n t = if zwhole D7 D7.1 = true then .inr D7 else .inl (6, n) := hz
                     rw [if_neg (by rw [w1]; decide)] at hz
                     exact h0 _ hz _ ((hF.st rfl).st rfl) (by rw [zst_ne (by decide), zst_eq]) (by rw [zst_eq]; exact ht2.1))
              · refine And.intro (fun _ => ?_) (fun c => absurd (by decide) c)
                refine And.intro (by first | exact Or.inl rfl | exact Or.inr rfl | omega) ?_
                first
                | (refine h0 e ?_ _ (hF.tr (zGf_T hF9)) g29 g39
                   unfold ztext
                   exact zbd_l z)
                | (obtain ⟨f7, hf7⟩ : ∃ f7, 9 - i7 = f7 + 1 := ⟨8 - i7, by omega⟩
                   rw [hf7, zblocks, if_neg (by omega), zbd_l z] at hz
                   exact h0 e hz _ (hF.tr hF9) g29 g39)
                | (obtain ⟨f7, hf7⟩ : ∃ f7, 9 - i7 = f7 + 1 := ⟨8 - i7, by omega⟩
                   have hbk : zblock n t k7 D7 = .inl e := by
                     rw [zblock_e wa da za zb, zbd_l z]
                   rw [hf7, zblocks, if_neg (by omega), zbd_l hbk] at hz
                   exact h0 e hz _ ((hF.tr hFb).tr hF9) g29 g39)
                | (obtain ⟨f7, hf7⟩ : ∃ f7, 9 - i7 = f7 + 1 := ⟨8 - i7, by omega⟩
                   have hbk : zblock n t k7 D7 = .inl e := by
                     rw [zblock_e wa da za zb, zbd_r zc]
                     unfold zbrest
                     rw [zbd_l z]
                   rw [hf7, zblocks, if_neg (by omega), zbd_l hbk] at hz
                   exact h0 e hz _ (((hF.tr hFb).tr hFc).tr hF9) g29 g39)
                | (obtain ⟨f7, hf7⟩ : ∃ f7, 9 - i7 = f7 + 1 := ⟨8 - i7, by omega⟩
                   have hbk : zblock n t k7 D7 = .inl e := by
                     rw [zblock_e wa da za zb, zbd_r zc]
                     unfold zbrest
                     rw [zbd_r ze, zbd_l z]
                   rw [hf7, zblocks, if_neg (by omega), zbd_l hbk] at hz
                   exact h0 e hz _ ((((hF.tr hFb).tr hFc).tr hFe).tr (zGf_T hF9)) g29 g39)
                | (have hz : ztext n t = if zwhole D7 D7.1 = true then .inr D7 else .inl (6, n) := hz
                   rw [if_pos w1] at hz
                   exact h1 _ hz _ hF g2 hd)
                | (have hz : ztext n t = if zwhole D7 D7.1 = true then .inr D7 else .inl (6, n) := hz
                   rw [if_neg (by rw [w1]; decide)] at hz
                   exact h0 _ hz _ ((hF.st rfl).st rfl) (by rw [zst_ne (by decide), zst_eq]) (by rw [zst_eq]; exact ht2.1))
            · refine And.intro (fun _ => ?_) (fun c => absurd (by decide) c)
              refine And.intro (by first | exact Or.inl rfl | exact Or.inr rfl | omega) ?_
              first
              | (refine h0 e ?_ _ (hF.tr (zGf_T hF9)) g29 g39
                 unfold ztext
                 exact zbd_l z)
              | (obtain ⟨f7, hf7⟩ : ∃ f7, 9 - i7 = f7 + 1 := ⟨8 - i7, by omega⟩
                 rw [hf7, zblocks, if_neg (by omega), zbd_l z] at hz
                 exact h0 e hz _ (hF.tr hF9) g29 g39)
              | (obtain ⟨f7, hf7⟩ : ∃ f7, 9 - i7 = f7 + 1 := ⟨8 - i7, by omega⟩
                 have hbk : zblock n t k7 D7 = .inl e := by
                   rw [zblock_e wa da za zb, zbd_l z]
                 rw [hf7, zblocks, if_neg (by omega), zbd_l hbk] at hz
                 exact h0 e hz _ ((hF.tr hFb).tr hF9) g29 g39)
              | (obtain ⟨f7, hf7⟩ : ∃ f7, 9 - i7 = f7 + 1 := ⟨8 - i7, by omega⟩
                 have hbk : zblock n t k7 D7 = .inl e := by
                   rw [zblock_e wa da za zb, zbd_r zc]
                   unfold zbrest
                   rw [zbd_l z]
                 rw [hf7, zblocks, if_neg (by omega), zbd_l hbk] at hz
                 exact h0 e hz _ (((hF.tr hFb).tr hFc).tr hF9) g29 g39)
              | (obtain ⟨f7, hf7⟩ : ∃ f7, 9 - i7 = f7 + 1 := ⟨8 - i7, by omega⟩
                 have hbk : zblock n t k7 D7 = .inl e := by
                   rw [zblock_e wa da za zb, zbd_r zc]
                   unfold zbrest
                   rw [zbd_r ze, zbd_l z]
                 rw [hf7, zblocks, if_neg (by omega), zbd_l hbk] at hz
                 exact h0 e hz _ ((((hF.tr hFb).tr hFc).tr hFe).tr (zGf_T hF9)) g29 g39)
              | (have hz : ztext n t = if zwhole D7 D7.1 = true then .inr D7 else .inl (6, n) := hz
                 rw [if_pos w1] at hz
                 exact h1 _ hz _ hF g2 hd)
              | (have hz : ztext n t = if zwhole D7 D7.1 = true then .inr D7 else .inl (6, n) := hz
                 rw [if_neg (by rw [w1]; decide)] at hz
                 exact h0 _ hz _ ((hF.st rfl).st rfl) (by rw [zst_ne (by decide), zst_eq]) (by rw [zst_eq]; exact ht2.1))
          · refine And.intro (fun _ => ?_) (fun c => absurd (by decide) c)
            refine And.intro (by first | exact Or.inl rfl | exact Or.inr rfl | omega) ?_
            first
            | (refine h0 e ?_ _ (hF.tr (zGf_T hF9)) g29 g39
               unfold ztext
               exact zbd_l z)
            | (obtain ⟨f7, hf7⟩ : ∃ f7, 9 - i7 = f7 + 1 := ⟨8 - i7, by omega⟩
               rw [hf7, zblocks, if_neg (by omega), zbd_l z] at hz
               exact h0 e hz _ (hF.tr hF9) g29 g39)
            | (obtain ⟨f7, hf7⟩ : ∃ f7, 9 - i7 = f7 + 1 := ⟨8 - i7, by omega⟩
               have hbk : zblock n t k7 D7 = .inl e := by
                 rw [zblock_e wa da za zb, zbd_l z]
               rw [hf7, zblocks, if_neg (by omega), zbd_l hbk] at hz
               exact h0 e hz _ ((hF.tr hFb).tr hF9) g29 g39)
            | (obtain ⟨f7, hf7⟩ : ∃ f7, 9 - i7 = f7 + 1 := ⟨8 - i7, by omega⟩
               have hbk : zblock n t k7 D7 = .inl e := by
                 rw [zblock_e wa da za zb, zbd_r zc]
                 unfold zbrest
                 rw [zbd_l z]
               rw [hf7, zblocks, if_neg (by omega), zbd_l hbk] at hz
               exact h0 e hz _ (((hF.tr hFb).tr hFc).tr hF9) g29 g39)
            | (obtain ⟨f7, hf7⟩ : ∃ f7, 9 - i7 = f7 + 1 := ⟨8 - i7, by omega⟩
               have hbk : zblock n t k7 D7 = .inl e := by
                 rw [zblock_e wa da za zb, zbd_r zc]
                 unfold zbrest
                 rw [zbd_r ze, zbd_l z]
               rw [hf7, zblocks, if_neg (by omega), zbd_l hbk] at hz
               exact h0 e hz _ ((((hF.tr hFb).tr hFc).tr hFe).tr (zGf_T hF9)) g29 g39)
            | (have hz : ztext n t = if zwhole D7 D7.1 = true then .inr D7 else .inl (6, n) := hz
               rw [if_pos w1] at hz
               exact h1 _ hz _ hF g2 hd)
            | (have hz : ztext n t = if zwhole D7 D7.1 = true then .inr D7 else .inl (6, n) := hz
               rw [if_neg (by rw [w1]; decide)] at hz
               exact h0 _ hz _ ((hF.st rfl).st rfl) (by rw [zst_ne (by decide), zst_eq]) (by rw [zst_eq]; exact ht2.1))
