/-! The reference's text -/
def zYd : Nat → Int → Bool := fun r k => zRm r k || (Nat.beq r 82 && decide (531 ≤ k))
def zYe : Nat → Int → Bool := fun r k => zYd r k || (Nat.beq r 81 && decide (2 ≤ k ∧ k ≤ 3))
def zYxf : Nat → Int → Bool := fun r k => zYe r k || ((Nat.beq r 81 && (decide (k = 14) || decide (k = 36))) || ((Nat.beq r 82 && decide (k < 177)) || Nat.beq r 103))
theorem zYd_E {h h2 : zM} (hF : zF zRe h h2) : zF zYd h h2 := hF.mono (fun r j hf => by
  obtain ⟨a, b⟩ := Bool.or_eq_false_iff.mp hf
  unfold zRe
  rw [a, Bool.false_or]
  rcases Bool.and_eq_false_iff.mp b with b | b
  · rw [b]; rfl
  · have := of_decide_eq_false b
    rw [decide_eq_false (by omega), Bool.and_false])
theorem zYd_R {h h2 : zM} (hF : zF zRm h h2) : zF zYd h h2 := hF.mono (fun r j hf => (Bool.or_eq_false_iff.mp hf).1)
theorem zYe_d {h h2 : zM} (hF : zF zYd h h2) : zF zYe h h2 := hF.mono (fun r j hf => (Bool.or_eq_false_iff.mp hf).1)
theorem zYxf_e {h h2 : zM} (hF : zF zYe h h2) : zF zYxf h h2 := hF.mono (fun r j hf => (Bool.or_eq_false_iff.mp hf).1)
theorem zYd_i {k : Int} (h : 531 ≤ k) : zYd 82 k = true := by
  unfold zYd
  rw [decide_eq_true h]
  simp
theorem zTq.Y {h h2 : zM} {n : Nat} {t : Nat → Int} (ht : zTq h n t) (hF : zF zYd h h2) : zTq h2 n t := ⟨(hF _ _ rfl).trans ht.1, ht.2.1, fun i hi => ⟨(hF _ _ rfl).trans (ht.2.2 i hi).1, (ht.2.2 i hi).2⟩⟩
theorem zWc.Y {h h2 : zM} (hc : zWc h) (hF : zF zYd h h2) : zWc h2 := hc.fr (fun _ => hF _ _ rfl) (fun _ => hF _ _ rfl)
theorem ztk_end {n : Nat} {t : Nat → Int} (hb : ∀ i : Nat, i < n → 0 ≤ t i ∧ t i ≤ 127) {p : Nat} {k : zTk} (h : ztk n t p = .inr k) (h0 : k.2.2.1 = 0) : n ≤ k.1 := by
  unfold ztk ztk1 at h
  split at h
  · cases h
  · have h := Sum.inr.inj h
    subst h
    have h0 : zsr (zbt n t (zts n t p)) = 0 := h0
    apply Nat.le_of_not_lt
    intro q
    have q : zts n t p < n := q
    rw [zbt, if_pos q] at h0
    have := hb _ q
    unfold zsr at h0
    rw [if_neg (by omega)] at h0
    split at h0
    · omega
    · split at h0
      · omega
      · split at h0 <;> omega
theorem zblock_t {n : Nat} {t : Nat → Int} {k : zTk} {D : zD} {r : zTk × zD} (h : zblock n t k D = .inr r) : (∃ p, ztk n t p = .inr r.1) ∧ r.2.1 = D.1 + 1 := by
  unfold zblock at h
  split at h
  · split at h
    · cases h
    · obtain ⟨_, _, h⟩ := zbd_i h
      obtain ⟨_, _, h⟩ := zbd_i h
      obtain ⟨_, _, h⟩ := zbd_i h
      obtain ⟨e, _, h⟩ := zbd_i h
      obtain ⟨k3, q, h⟩ := zbd_i h
      have h := Sum.inr.inj h
      subst h
      refine ⟨⟨e.1.2.1, ?_⟩, rfl⟩
      unfold zsm1 at q
      by_cases s3 : e.1.2.2.1 = 3
      · rw [if_pos s3, zta_p (by omega)] at q
        exact q
      · rw [if_neg s3, zta_n (by omega)] at q
        cases q
  · cases h
theorem zYxf_67 {h h2 : zM} (hF : zF (fun r _ => Nat.beq r 82) h h2) (e2 : ∀ k, ¬ (0 ≤ k ∧ k < 0 + 177) → h2 82 k = h 82 k) : zF zYxf h h2 := by
  intro r j hf
  by_cases e : r = 82
  · subst e
    refine e2 j (fun q => ?_)
    obtain ⟨_, b⟩ := Bool.or_eq_false_iff.mp hf
    obtain ⟨_, b⟩ := Bool.or_eq_false_iff.mp b
    obtain ⟨b, _⟩ := Bool.or_eq_false_iff.mp b
    have b : decide (j < 177) = false := b
    have := of_decide_eq_false b
    omega
  · exact hF r j (zbeq_ne e)
set_option maxHeartbeats 4000000 in
set_option maxRecDepth 100000 in
/-- M.text -/
theorem s_65 {h : zM} {n : Nat} {t : Nat → Int} (ht : zTq h n t) (hc : zWc h) {Q : zQ} (h1 : ∀ D, ztext n t = .inr D → ∀ h2, zF zYxf h h2 → h2 81 2 = 0 → h2 81 3 = 0 → zPm h2 0 (zGD D) → h2 103 0 = 0 → h2 103 1 = 0 → h2 81 14 = 0 → h2 81 36 = 0 → Q (some (.inl (D.1 : Int))) h2) (h0 : ∀ e, ztext n t = .inl e → ∀ h2, zF zYe h h2 → h2 81 2 = 0 → h2 81 3 = e.1 → Q (some (.inl (-10 - (e.2 : Int)))) h2) : zR 65 [.inr (.inr 81)] h Q := by
  have hby := fun i (hi : i < n) => (ht.2.2 i hi).2
  have hg := zg_text hby
  have n320 := ht.2.1
  refine zx_met zk_65 (Or.inr ⟨_, _, rfl, rfl⟩) (Nat.le_of_ble_eq_true rfl) (fun x => Nat.beq x 8 || Nat.beq x 22 || Nat.beq x 40) 1000 (fun m0 j L S0 h2 => (j = 8 ∧ S0 = [] ∧ ∃ i7 : Nat, L = [some (.inr (.inr 81)), some (.inl (i7 : Int))] ∧ i7 ≤ 177 ∧ m0 = 500 - i7 ∧ zF zYd h h2 ∧ h2 81 4 = 0 ∧ h2 81 6 = ((0 : Nat) : Int) ∧ ∀ j : Int, 531 ≤ j → j < 531 + (i7 : Int) → h2 82 j = 0) ∨
    (j = 22 ∧ S0 = [] ∧ ∃ (q1 : Option zV) (i7 : Nat) (x : (Int × Nat) ⊕ zTk) (D : zD), L = [some (.inr (.inr 81)), q1] ∧ m0 = 100 - i7 ∧ i7 ≤ 9 ∧ zF zYd h h2 ∧ (∀ j : Int, 699 ≤ j → j ≤ 705 → h2 82 j = 0) ∧ zMs h2 n x ∧ (∀ e, x = .inl e → ztext n t = .inl e) ∧ ∀ k, x = .inr k → (∃ p, ztk n t p = .inr k) ∧ zDm h2 D ∧ D.1 = i7 ∧ ztext n t = zbd (zblocks n t (9 - i7) k D) fun r => if zwhole r.2 r.2.1 = true then .inr r.2 else .inl (6, n)) ∨
    (j = 40 ∧ S0 = [] ∧ ∃ (q1 : Option zV), L = [some (.inr (.inr 81)), q1] ∧ m0 = 5 ∧ zF zYd h h2 ∧ (∀ j : Int, 699 ≤ j → j ≤ 705 → h2 82 j = 0) ∧ ((h2 81 4 = 0 ∧ ∃ D, ztext n t = .inr D ∧ zDm h2 D) ∨ ∃ e, ztext n t = .inl e ∧ h2 81 4 = e.1 ∧ 0 < e.1 ∧ h2 81 5 = (e.2 : Int)))) (fun hok hM => ?_) (fun hok hM => ?_)
  · exact ⟨500 - 0, Or.inl ⟨rfl, rfl, 0, rfl, by omega, rfl, (zF.rf.st rfl).st rfl, by rw [zst_ne (by decide), zst_eq], zst_eq _ _ _ _, fun j a b => by omega⟩⟩
  · rintro n0 i0 L S h2 hM2 (hI | hI | hI)
    · obtain ⟨rfl, rfl, i7, rfl, hi7, hm0, hF, g4, g6, hz⟩ := hI
      have ht2 := ht.Y hF
      constructor
      · intro c1
        refine And.intro (by first | omega | (have := h5b (by omega); show -2147483648 ≤ -10 - h2 81 5 ∧ -10 - h2 81 5 < 2147483648; omega)) ?_
        refine And.intro (by first | (show 0 ≤ _ ∧ _ < (708 : Int); omega) | (show 0 ≤ _ ∧ _ < (2 : Int); omega)) ?_
        refine And.intro (by first | omega | (have := h5b (by omega); show -2147483648 ≤ -10 - h2 81 5 ∧ -10 - h2 81 5 < 2147483648; omega)) ?_
        refine ⟨500 - (i7 + 1), by omega, Or.inl ⟨rfl, rfl, i7 + 1, rfl, by omega, rfl, hF.st (zYd_i (by omega)), g4, g6, fun j a b => ?_⟩⟩
        by_cases e : j = 531 + (i7 : Int)
        · rw [e]; exact zst_eq _ _ _ _
        · rw [zst_ne (by omega)]; exact hz j a (by omega)
      · intro c1
        refine s_56c ht2 (Nat.zero_le _) g4 g6 (fun h3 hF3 hs3 => ?_)
        first
        | (have e : ∀ j, h3 82 j = h2 82 j := fun j => hF3 _ _ rfl
           refine ⟨100 - 0, by omega, Or.inr (Or.inl ⟨rfl, rfl, _, 0, _, zD0, rfl, rfl, by omega, hF.tr (zYd_R hF3), fun j a b => (e j).trans (hz j (by omega) (by omega)), hs3, fun e2 q => ?_, fun k q => ⟨⟨0, q⟩, ⟨(e _).trans (hz _ (by omega) (by omega)), by decide, fun p w hp hw => absurd hp (Nat.not_lt_zero _), (e _).trans (hz _ (by omega) (by omega)), by decide, fun i w hi hw => absurd hi (Nat.not_lt_zero _)⟩, rfl, ?_⟩⟩)⟩
           · unfold ztext
             exact zbd_l q
           · unfold ztext
             rw [zbd_r q])
        | (obtain ⟨f7, hf7⟩ : ∃ f7, 9 - i7 = f7 + 1 := ⟨8 - i7, by have := hd.2.1; omega⟩
           have hf8 : 9 - (i7 + 1) = f7 := by omega
           have i8 : i7 ≤ 8 := by omega
           rw [hf7, zblocks, if_neg (by omega), ← hf8] at hz
           refine ⟨100 - (i7 + 1), by omega, Or.inr (Or.inl ⟨rfl, rfl, _, i7 + 1, (zbd (zblock n t k2 D) fun r => .inr r.1), (match zblock n t k2 D with | .inl _ => D | .inr r => r.2), rfl, rfl, by omega, hF.tr (zYd_E hF3), fun j a b => (hF3 _ _ ?_).trans (hzr j a b), hs3, fun e q => ?_, fun k q => ?_⟩)⟩
           · unfold zRe
             rw [decide_eq_false (by omega)]
             simp [zRm]
           · cases z1 : zblock n t k2 D with
             | inl e1 =>
               rw [z1] at q hz
               cases q
               exact hz
             | inr r => rw [z1] at q; cases q
           · cases z1 : zblock n t k2 D with
             | inl e1 => rw [z1] at q; cases q
             | inr r =>
               rw [z1] at q hz
               have q : r.1 = k := Sum.inr.inj q
               subst q
               obtain ⟨p1, p2⟩ := zblock_t z1
               exact ⟨p1, hd3 r z1, by show r.2.1 = _; omega, hz⟩)
    · obtain ⟨rfl, rfl, q1, i7, x, D, rfl, hm0, hi7, hF, hzr, hs2, x0, x1⟩ := hI
      have ht2 := ht.Y hF
      have hc2 := hc.Y hF
      constructor
      · intro c2
        constructor
        · intro c3
          constructor
          · intro c4
            obtain ⟨k2, hx⟩ := zMs_i hs2 (by omega)
            subst hx
            obtain ⟨hp, hd, hD, hz⟩ := x1 k2 rfl
            have k8 := (hs2.2 k2 rfl).2.1.2.2.1
            have hbl : zblocks n t (9 - i7) k2 D = .inr (k2, D) := by
              cases e : 9 - i7 with
              | zero => rfl
              | succ f => rw [zblocks, if_pos (by omega)]
            rw [zbd_r hbl] at hz
            have hz : ztext n t = if zwhole D D.1 = true then .inr D else .inl (6, n) := hz
            refine s_64 hd.1 hd.2.1 hd.2.2.1 (fun w1 => ?_) (fun w1 => ?_)
            · refine And.intro (fun c => absurd c (by decide)) (fun _ => ?_)
              first
              | (rw [if_pos w1] at hz
                 exact ⟨5, by omega, Or.inr (Or.inr ⟨rfl, rfl, _, rfl, rfl, hF, hzr, Or.inl ⟨by omega, D, hz, hd⟩⟩)⟩)
              | (rw [if_neg (by rw [w1]; decide)] at hz
                 obtain ⟨p, hp⟩ := hp
                 have kn : k2.1 = n := by
                   have := ztk_end hby hp (by omega)
                   have := gb.1
                   have := gb.2.1
                   omega
                 obtain ⟨y1, y2, y3, _⟩ := hs3.1 _ rfl
                 rw [kn] at y3
                 exact ⟨5, by omega, Or.inr (Or.inr ⟨rfl, rfl, _, rfl, rfl, hF.tr (zYd_R hF3), fun j a b => (hF3 _ _ rfl).trans (hzr j a b), Or.inr ⟨(6, n), hz, y1, y2, y3⟩⟩)⟩)
              | (obtain ⟨e, hx⟩ := zMs_e hs2 (by omega)
                 obtain ⟨y1, y2, y3, _⟩ := hs2.1 e hx
                 exact ⟨5, by omega, Or.inr (Or.inr ⟨rfl, rfl, _, rfl, rfl, hF, hzr, Or.inr ⟨e, x0 e hx, y1, y2, y3⟩⟩)⟩)
            · refine And.intro (fun _ => ?_) (fun c => absurd (by decide) c)
              obtain ⟨g4, gk, gb⟩ := hs2.2 k2 rfl
              refine s_54k n320 g4 gk gb (by omega) (fun h3 hF3 hs3 g3 => ?_)
              first
              | (rw [if_pos w1] at hz
                 exact ⟨5, by omega, Or.inr (Or.inr ⟨rfl, rfl, _, rfl, rfl, hF, hzr, Or.inl ⟨by omega, D, hz, hd⟩⟩)⟩)
              | (rw [if_neg (by rw [w1]; decide)] at hz
                 obtain ⟨p, hp⟩ := hp
                 have kn : k2.1 = n := by
                   have := ztk_end hby hp (by omega)
                   have := gb.1
                   have := gb.2.1
                   omega
                 obtain ⟨y1, y2, y3, _⟩ := hs3.1 _ rfl
                 rw [kn] at y3
                 exact ⟨5, by omega, Or.inr (Or.inr ⟨rfl, rfl, _, rfl, rfl, hF.tr (zYd_R hF3), fun j a b => (hF3 _ _ rfl).trans (hzr j a b), Or.inr ⟨(6, n), hz, y1, y2, y3⟩⟩)⟩)
              | (obtain ⟨e, hx⟩ := zMs_e hs2 (by omega)
                 obtain ⟨y1, y2, y3, _⟩ := hs2.1 e hx
                 exact ⟨5, by omega, Or.inr (Or.inr ⟨rfl, rfl, _, rfl, rfl, hF, hzr, Or.inr ⟨e, x0 e hx, y1, y2, y3⟩⟩)⟩)
          · intro c4
            first
            | (rw [if_pos w1] at hz
               exact ⟨5, by omega, Or.inr (Or.inr ⟨rfl, rfl, _, rfl, rfl, hF, hzr, Or.inl ⟨by omega, D, hz, hd⟩⟩)⟩)
            | (rw [if_neg (by rw [w1]; decide)] at hz
               obtain ⟨p, hp⟩ := hp
               have kn : k2.1 = n := by
                 have := ztk_end hby hp (by omega)
                 have := gb.1
                 have := gb.2.1
                 omega
               obtain ⟨y1, y2, y3, _⟩ := hs3.1 _ rfl
               rw [kn] at y3
               exact ⟨5, by omega, Or.inr (Or.inr ⟨rfl, rfl, _, rfl, rfl, hF.tr (zYd_R hF3), fun j a b => (hF3 _ _ rfl).trans (hzr j a b), Or.inr ⟨(6, n), hz, y1, y2, y3⟩⟩)⟩)
            | (obtain ⟨e, hx⟩ := zMs_e hs2 (by omega)
               obtain ⟨y1, y2, y3, _⟩ := hs2.1 e hx
               exact ⟨5, by omega, Or.inr (Or.inr ⟨rfl, rfl, _, rfl, rfl, hF, hzr, Or.inr ⟨e, x0 e hx, y1, y2, y3⟩⟩)⟩)
        · intro c3
          obtain ⟨k2, hx⟩ := zMs_i hs2 (by omega)
          subst hx
          obtain ⟨hp, hd, hD, hz⟩ := x1 k2 rfl
          have k8 := (hs2.2 k2 rfl).2.1.2.2.1
          refine s_63 ht2 hc2 hs2 hd (fun h3 hF3 hs3 hd3 => ?_)
          first
          | (have e : ∀ j, h3 82 j = h2 82 j := fun j => hF3 _ _ rfl
             refine ⟨100 - 0, by omega, Or.inr (Or.inl ⟨rfl, rfl, _, 0, _, zD0, rfl, rfl, by omega, hF.tr (zYd_R hF3), fun j a b => (e j).trans (hz j (by omega) (by omega)), hs3, fun e2 q => ?_, fun k q => ⟨⟨0, q⟩, ⟨(e _).trans (hz _ (by omega) (by omega)), by decide, fun p w hp hw => absurd hp (Nat.not_lt_zero _), (e _).trans (hz _ (by omega) (by omega)), by decide, fun i w hi hw => absurd hi (Nat.not_lt_zero _)⟩, rfl, ?_⟩⟩)⟩
             · unfold ztext
               exact zbd_l q
             · unfold ztext
               rw [zbd_r q])
          | (obtain ⟨f7, hf7⟩ : ∃ f7, 9 - i7 = f7 + 1 := ⟨8 - i7, by have := hd.2.1; omega⟩
             have hf8 : 9 - (i7 + 1) = f7 := by omega
             have i8 : i7 ≤ 8 := by omega
             rw [hf7, zblocks, if_neg (by omega), ← hf8] at hz
             refine ⟨100 - (i7 + 1), by omega, Or.inr (Or.inl ⟨rfl, rfl, _, i7 + 1, (zbd (zblock n t k2 D) fun r => .inr r.1), (match zblock n t k2 D with | .inl _ => D | .inr r => r.2), rfl, rfl, by omega, hF.tr (zYd_E hF3), fun j a b => (hF3 _ _ ?_).trans (hzr j a b), hs3, fun e q => ?_, fun k q => ?_⟩)⟩
             · unfold zRe
               rw [decide_eq_false (by omega)]
               simp [zRm]
             · cases z1 : zblock n t k2 D with
               | inl e1 =>
                 rw [z1] at q hz
                 cases q
                 exact hz
               | inr r => rw [z1] at q; cases q
             · cases z1 : zblock n t k2 D with
               | inl e1 => rw [z1] at q; cases q
               | inr r =>
                 rw [z1] at q hz
                 have q : r.1 = k := Sum.inr.inj q
                 subst q
                 obtain ⟨p1, p2⟩ := zblock_t z1
                 exact ⟨p1, hd3 r z1, by show r.2.1 = _; omega, hz⟩)
      · intro c2
        constructor
        · intro c5
          obtain ⟨k2, hx⟩ := zMs_i hs2 (by omega)
          subst hx
          obtain ⟨hp, hd, hD, hz⟩ := x1 k2 rfl
          have k8 := (hs2.2 k2 rfl).2.1.2.2.1
          have hbl : zblocks n t (9 - i7) k2 D = .inr (k2, D) := by
            cases e : 9 - i7 with
            | zero => rfl
            | succ f => rw [zblocks, if_pos (by omega)]
          rw [zbd_r hbl] at hz
          have hz : ztext n t = if zwhole D D.1 = true then .inr D else .inl (6, n) := hz
          refine s_64 hd.1 hd.2.1 hd.2.2.1 (fun w1 => ?_) (fun w1 => ?_)
          · refine And.intro (fun c => absurd c (by decide)) (fun _ => ?_)
            first
            | (rw [if_pos w1] at hz
               exact ⟨5, by omega, Or.inr (Or.inr ⟨rfl, rfl, _, rfl, rfl, hF, hzr, Or.inl ⟨by omega, D, hz, hd⟩⟩)⟩)
            | (rw [if_neg (by rw [w1]; decide)] at hz
               obtain ⟨p, hp⟩ := hp
               have kn : k2.1 = n := by
                 have := ztk_end hby hp (by omega)
                 have := gb.1
                 have := gb.2.1
                 omega
               obtain ⟨y1, y2, y3, _⟩ := hs3.1 _ rfl
               rw [kn] at y3
               exact ⟨5, by omega, Or.inr (Or.inr ⟨rfl, rfl, _, rfl, rfl, hF.tr (zYd_R hF3), fun j a b => (hF3 _ _ rfl).trans (hzr j a b), Or.inr ⟨(6, n), hz, y1, y2, y3⟩⟩)⟩)
            | (obtain ⟨e, hx⟩ := zMs_e hs2 (by omega)
               obtain ⟨y1, y2, y3, _⟩ := hs2.1 e hx
               exact ⟨5, by omega, Or.inr (Or.inr ⟨rfl, rfl, _, rfl, rfl, hF, hzr, Or.inr ⟨e, x0 e hx, y1, y2, y3⟩⟩)⟩)
          · refine And.intro (fun _ => ?_) (fun c => absurd (by decide) c)
            obtain ⟨g4, gk, gb⟩ := hs2.2 k2 rfl
            refine s_54k n320 g4 gk gb (by omega) (fun h3 hF3 hs3 g3 => ?_)
            first
            | (rw [if_pos w1] at hz
               exact ⟨5, by omega, Or.inr (Or.inr ⟨rfl, rfl, _, rfl, rfl, hF, hzr, Or.inl ⟨by omega, D, hz, hd⟩⟩)⟩)
            | (rw [if_neg (by rw [w1]; decide)] at hz
               obtain ⟨p, hp⟩ := hp
               have kn : k2.1 = n := by
                 have := ztk_end hby hp (by omega)
                 have := gb.1
                 have := gb.2.1
                 omega
               obtain ⟨y1, y2, y3, _⟩ := hs3.1 _ rfl
               rw [kn] at y3
               exact ⟨5, by omega, Or.inr (Or.inr ⟨rfl, rfl, _, rfl, rfl, hF.tr (zYd_R hF3), fun j a b => (hF3 _ _ rfl).trans (hzr j a b), Or.inr ⟨(6, n), hz, y1, y2, y3⟩⟩)⟩)
            | (obtain ⟨e, hx⟩ := zMs_e hs2 (by omega)
               obtain ⟨y1, y2, y3, _⟩ := hs2.1 e hx
               exact ⟨5, by omega, Or.inr (Or.inr ⟨rfl, rfl, _, rfl, rfl, hF, hzr, Or.inr ⟨e, x0 e hx, y1, y2, y3⟩⟩)⟩)
        · intro c5
          first
          | (rw [if_pos w1] at hz
             exact ⟨5, by omega, Or.inr (Or.inr ⟨rfl, rfl, _, rfl, rfl, hF, hzr, Or.inl ⟨by omega, D, hz, hd⟩⟩)⟩)
          | (rw [if_neg (by rw [w1]; decide)] at hz
             obtain ⟨p, hp⟩ := hp
             have kn : k2.1 = n := by
               have := ztk_end hby hp (by omega)
               have := gb.1
               have := gb.2.1
               omega
             obtain ⟨y1, y2, y3, _⟩ := hs3.1 _ rfl
             rw [kn] at y3
             exact ⟨5, by omega, Or.inr (Or.inr ⟨rfl, rfl, _, rfl, rfl, hF.tr (zYd_R hF3), fun j a b => (hF3 _ _ rfl).trans (hzr j a b), Or.inr ⟨(6, n), hz, y1, y2, y3⟩⟩)⟩)
          | (obtain ⟨e, hx⟩ := zMs_e hs2 (by omega)
             obtain ⟨y1, y2, y3, _⟩ := hs2.1 e hx
             exact ⟨5, by omega, Or.inr (Or.inr ⟨rfl, rfl, _, rfl, rfl, hF, hzr, Or.inr ⟨e, x0 e hx, y1, y2, y3⟩⟩)⟩)
    · obtain ⟨rfl, rfl, q1, rfl, hm0, hF, hzr, hx⟩ := hI
      have h5b : ¬ h2 81 4 = 0 → 0 ≤ h2 81 5 ∧ h2 81 5 ≤ 320 := by
        intro q
        rcases hx with hx | ⟨e, z, _, _, y⟩
        · exact absurd hx.1 q
        · have := (hg.1 e z).1
          omega
      constructor
      · intro c6
        first
        | (have c6b : h2 81 4 ≤ 0 := c6)
        | (have c6b : ¬ h2 81 4 ≤ 0 := c6)
        | (have c6b : 0 < h2 81 4 := c6)
        | (have c6b : ¬ 0 < h2 81 4 := c6)
        refine And.intro (by first | omega | (have := h5b (by omega); show -2147483648 ≤ -10 - h2 81 5 ∧ -10 - h2 81 5 < 2147483648; omega)) ?_
        first
        | (rcases hx with hx | ⟨e, z, y1, y2, y3⟩
           · exfalso; omega
           · have hq := h0 e z (zx_st (zx_st h2 81 2 0) 81 3 (h2 81 4)) (((zYe_d hF).st rfl).st rfl) (by rw [zst_ne (by decide), zst_eq]) ((zst_eq _ _ _ _).trans y1)
             rw [← y3] at hq
             exact hq)
        | (rcases hx with ⟨g4, D, z, d1, d2, d3, d4, d5, d6⟩ | ⟨e, z, y1, y2, y3⟩
           · have c : ∀ j : Int, 0 ≤ j → j < 177 → h3 82 (0 + j) = h2 82 (531 + j) := fun j a b => e1 j a b
             have e175 : h3 82 175 = (D.1 : Int) := (c 175 (by omega) (by omega)).trans d1
             have hq := h1 D z (zx_st (zx_st (zx_st (zx_st h3 81 14 0) 81 36 0) 103 0 0) 103 1 0) (((((zYxf_e (((zYe_d hF).st rfl).st rfl)).tr (zYxf_67 hF3 e2)).st rfl).st rfl).st rfl |>.st rfl) (hF3 81 2 rfl) ((hF3 81 3 rfl).trans g4) ⟨e175, (c 176 (by omega) (by omega)).trans d4, fun p w hp hw => ?_, fun i w hi hw => ?_, fun v v0 v6 => ?_, ?_⟩ rfl rfl rfl rfl
             · rw [← e175] at hq
               exact hq
             · have hp : p < D.1 := hp
               refine (c _ (by omega) (by omega)).trans ?_
               rw [show 531 + (120 + 8 * (w : Int) + (p : Int)) = 651 + 8 * (w : Int) + (p : Int) by omega]
               exact d3 p w hp hw
             · have hi : i < D.2.2.1 := hi
               refine (c _ (by omega) (by omega)).trans ?_
               rw [show 531 + (24 * (w : Int) + (i : Int)) = 531 + 24 * (w : Int) + (i : Int) by omega]
               exact d6 i w hi hw
             · exact (c _ (by omega) (by omega)).trans (hzr _ (by omega) (by omega))
             · exact (c 174 (by omega) (by omega)).trans (hzr _ (by omega) (by omega))
           · exfalso; omega)
        | (exfalso; omega)
      · intro c6
        first
        | (have c6b : h2 81 4 ≤ 0 := c6)
        | (have c6b : ¬ h2 81 4 ≤ 0 := c6)
        | (have c6b : 0 < h2 81 4 := c6)
        | (have c6b : ¬ 0 < h2 81 4 := c6)
        refine s_67 (by omega) (by omega) (by omega) (fun h3 hF3 e1 e2 => ?_)
        refine And.intro (by first | exact Or.inl rfl | exact Or.inr rfl | omega) ?_
        refine And.intro (by first | exact Or.inl rfl | exact Or.inr rfl | omega) ?_
        refine And.intro (by first | (show 0 ≤ _ ∧ _ < (708 : Int); omega) | (show 0 ≤ _ ∧ _ < (2 : Int); omega)) ?_
        refine And.intro (by first | exact Or.inl rfl | exact Or.inr rfl | omega) ?_
        refine And.intro (by first | (show 0 ≤ _ ∧ _ < (708 : Int); omega) | (show 0 ≤ _ ∧ _ < (2 : Int); omega)) ?_
        refine And.intro (by first | exact Or.inl rfl | exact Or.inr rfl | omega) ?_
        refine And.intro (by first | (show 0 ≤ _ ∧ _ < (708 : Int); omega) | (show 0 ≤ _ ∧ _ < (2 : Int); omega)) ?_
        first
        | (rcases hx with hx | ⟨e, z, y1, y2, y3⟩
           · exfalso; omega
           · have hq := h0 e z (zx_st (zx_st h2 81 2 0) 81 3 (h2 81 4)) (((zYe_d hF).st rfl).st rfl) (by rw [zst_ne (by decide), zst_eq]) ((zst_eq _ _ _ _).trans y1)
             rw [← y3] at hq
             exact hq)
        | (rcases hx with ⟨g4, D, z, d1, d2, d3, d4, d5, d6⟩ | ⟨e, z, y1, y2, y3⟩
           · have c : ∀ j : Int, 0 ≤ j → j < 177 → h3 82 (0 + j) = h2 82 (531 + j) := fun j a b => e1 j a b
             have e175 : h3 82 175 = (D.1 : Int) := (c 175 (by omega) (by omega)).trans d1
             have hq := h1 D z (zx_st (zx_st (zx_st (zx_st h3 81 14 0) 81 36 0) 103 0 0) 103 1 0) (((((zYxf_e (((zYe_d hF).st rfl).st rfl)).tr (zYxf_67 hF3 e2)).st rfl).st rfl).st rfl |>.st rfl) (hF3 81 2 rfl) ((hF3 81 3 rfl).trans g4) ⟨e175, (c 176 (by omega) (by omega)).trans d4, fun p w hp hw => ?_, fun i w hi hw => ?_, fun v v0 v6 => ?_, ?_⟩ rfl rfl rfl rfl
             · rw [← e175] at hq
               exact hq
             · have hp : p < D.1 := hp
               refine (c _ (by omega) (by omega)).trans ?_
               rw [show 531 + (120 + 8 * (w : Int) + (p : Int)) = 651 + 8 * (w : Int) + (p : Int) by omega]
               exact d3 p w hp hw
             · have hi : i < D.2.2.1 := hi
               refine (c _ (by omega) (by omega)).trans ?_
               rw [show 531 + (24 * (w : Int) + (i : Int)) = 531 + 24 * (w : Int) + (i : Int) by omega]
               exact d6 i w hi hw
             · exact (c _ (by omega) (by omega)).trans (hzr _ (by omega) (by omega))
             · exact (c 174 (by omega) (by omega)).trans (hzr _ (by omega) (by omega))
           · exfalso; omega)
        | (exfalso; omega)
