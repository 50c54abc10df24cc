/-! CONTRACTS: count, read: class and reference -/
set_option maxHeartbeats 4000000 in
set_option maxRecDepth 100000 in
/-- C.count -/
theorem s_27 {w : Int} {h : zM} {Q : zQ} (hk : zWk h 12) (hs : ∀ v : Nat, v < 6 → 0 ≤ h 70 v ∧ h 70 v ≤ 99) (q0 : w = 0 → Q (some (.inl ((if h 51 0 = 0 then 0 else 1) + (if h 51 1 = 0 then 0 else 1)))) h) (q1 : w = 1 → Q (some (.inl (h 2 1))) h) (q2 : w = 2 → Q (some (.inl (if h 73 1 = -4 then -4 else h 73 2))) h) (q3 : w = 3 → Q (some (.inl (zit (fun v s => s + h 70 v) 6 0))) h) (q4 : w = 4 → Q (some (.inl (zit (fun i s => s + (zno (h 19 ((i : Int) * 5 + 2)) + zno (h 19 ((i : Int) * 5 + 4)))) (h 12 8).toNat 0))) h) (qb : ¬ (0 ≤ w ∧ w ≤ 4) → Q (some (.inl (-1))) h) : zR 27 [.inr (.inr 0), .inl w] h Q := by
  have l51 : zx_ln 51 = (2 : Int) := rfl
  have l72 : zx_ln 72 = (4 : Int) := rfl
  refine zx_met0 zk_27 (Or.inr ⟨_, _, rfl, rfl⟩) (Nat.le_of_ble_eq_true rfl) 1000 (fun hok hM => ?_)
  constructor
  · intro c1
    refine And.intro (by omega) ?_
    constructor
    · intro c2
      refine And.intro (by omega) ?_
      constructor
      · intro c3
        refine And.intro (by omega) ?_
        have hq := q0 (by omega)
        first
        | (rw [if_pos (by assumption), if_pos (by assumption)] at hq; exact hq)
        | (rw [if_pos (by assumption), if_neg (by assumption)] at hq; exact hq)
        | (rw [if_neg (by assumption), if_pos (by assumption)] at hq; exact hq)
        | (rw [if_neg (by assumption), if_neg (by assumption)] at hq; exact hq)
      · intro c3
        refine And.intro (by omega) ?_
        have hq := q0 (by omega)
        first
        | (rw [if_pos (by assumption), if_pos (by assumption)] at hq; exact hq)
        | (rw [if_pos (by assumption), if_neg (by assumption)] at hq; exact hq)
        | (rw [if_neg (by assumption), if_pos (by assumption)] at hq; exact hq)
        | (rw [if_neg (by assumption), if_neg (by assumption)] at hq; exact hq)
    · intro c2
      refine And.intro (by omega) ?_
      constructor
      · intro c4
        refine And.intro (by omega) ?_
        have hq := q0 (by omega)
        first
        | (rw [if_pos (by assumption), if_pos (by assumption)] at hq; exact hq)
        | (rw [if_pos (by assumption), if_neg (by assumption)] at hq; exact hq)
        | (rw [if_neg (by assumption), if_pos (by assumption)] at hq; exact hq)
        | (rw [if_neg (by assumption), if_neg (by assumption)] at hq; exact hq)
      · intro c4
        refine And.intro (by omega) ?_
        have hq := q0 (by omega)
        first
        | (rw [if_pos (by assumption), if_pos (by assumption)] at hq; exact hq)
        | (rw [if_pos (by assumption), if_neg (by assumption)] at hq; exact hq)
        | (rw [if_neg (by assumption), if_pos (by assumption)] at hq; exact hq)
        | (rw [if_neg (by assumption), if_neg (by assumption)] at hq; exact hq)
  · intro c1
    constructor
    · intro c5
      exact q1 (by omega)
    · intro c5
      constructor
      · intro c6
        refine And.intro (by omega) ?_
        constructor
        · intro c7
          have hq := q2 (by omega)
          first
          | (rw [if_pos (by assumption)] at hq; exact hq)
          | (rw [if_neg (by assumption)] at hq; exact hq)
        · intro c7
          refine And.intro (by omega) ?_
          have hq := q2 (by omega)
          first
          | (rw [if_pos (by assumption)] at hq; exact hq)
          | (rw [if_neg (by assumption)] at hq; exact hq)
      · intro c6
        constructor
        · intro c8
          refine s_32 hs ?_
          exact q3 (by omega)
        · intro c8
          constructor
          · intro c9
            refine s_33 hk ?_
            exact q4 (by omega)
          · intro c9
            exact qb (by omega)
set_option maxHeartbeats 4000000 in
set_option maxRecDepth 100000 in
/-- M.count -/
theorem s_132 {w : Int} {h : zM} {Q : zQ} (hk : 0 ≤ h 82 176 ∧ h 82 176 ≤ 24) (hs : ∀ v : Nat, v < 6 → 0 ≤ h 98 v ∧ h 98 v ≤ 99) (q0 : w = 0 → Q (some (.inl ((if h 103 0 = 0 then 0 else 1) + (if h 103 1 = 0 then 0 else 1)))) h) (q1 : w = 1 → Q (some (.inl (h 81 2))) h) (q2 : w = 2 → Q (some (.inl (if h 104 0 = -4 then -4 else h 105 0))) h) (q3 : w = 3 → Q (some (.inl (zit (fun v s => s + h 98 v) 6 0))) h) (q4 : w = 4 → Q (some (.inl (zit (fun i s => s + (zno (h 82 (48 + (i : Int))) + zno (h 82 (96 + (i : Int))))) (h 82 176).toNat 0))) h) (qb : ¬ (0 ≤ w ∧ w ≤ 4) → Q (some (.inl (-1))) h) : zR 132 [.inr (.inr 81), .inl w] h Q := by
  have l82 : zx_ln 82 = (708 : Int) := rfl
  have l98 : zx_ln 98 = (6 : Int) := rfl
  have l103 : zx_ln 103 = (2 : Int) := rfl
  have l104 : zx_ln 104 = (4 : Int) := rfl
  have l105 : zx_ln 105 = (4 : Int) := rfl
  obtain ⟨N, hn⟩ : ∃ N : Nat, (N : Int) = h 82 176 := ⟨(h 82 176).toNat, Int.toNat_of_nonneg hk.1⟩
  have hb6 := zsum_b hs
  have hb := zsum_b (g := fun i => zno (h 82 (48 + i)) + zno (h 82 (96 + i))) (n := 24) (c := 198) (fun v _ => by have a := zno_r (h 82 (48 + (v : Int))); have b := zno_r (h 82 (96 + (v : Int))); show 0 ≤ zno _ + zno _ ∧ zno _ + zno _ ≤ 198; omega)
  rw [← hn, Int.toNat_natCast] at q4
  refine zx_met zk_132 (Or.inr ⟨_, _, rfl, rfl⟩) (Nat.le_of_ble_eq_true rfl) (fun _ => false) 1000 (fun m i L S h2 => (i = 6 ∧ S = [] ∧ h2 = h ∧ ∃ k : Nat, L = [some (.inr (.inr 81)), some (.inl w), some (.inl (zit (fun v s => s + h 98 v) k 0)), some (.inl 0), some (.inl (k : Int))] ∧ k ≤ 6 ∧ m = 6 - k + 100) ∨ (i = 20 ∧ S = [] ∧ h2 = h ∧ ∃ k : Nat, L = [some (.inr (.inr 81)), some (.inl w), some (.inl (zit (fun v s => s + h 98 v) 6 0)), some (.inl (zit (fun i s => s + (zno (h 82 (48 + (i : Int))) + zno (h 82 (96 + (i : Int))))) k 0)), some (.inl (k : Int))] ∧ k ≤ N ∧ m = N - k)) (fun hok hM => ?_) (fun hok hM => ?_)
  · exact ⟨106, Or.inl ⟨rfl, rfl, rfl, 0, rfl, by omega, rfl⟩⟩
  · rintro n i L S h2 hM2 (hI | hI)
    · obtain ⟨rfl, rfl, rfl, k, rfl, hkn, hm⟩ := hI
      have hbk := hb6 k hkn
      constructor
      · intro c1
        refine And.intro (by omega) ?_
        refine And.intro (by have := hs k (by omega); omega) ?_
        refine And.intro (by omega) ?_
        exact ⟨6 - (k + 1) + 100, by omega, Or.inl ⟨rfl, rfl, rfl, k + 1, rfl, by omega, rfl⟩⟩
      · intro c1
        first
        | (have hk6 : k = 6 := by omega
           subst hk6
           exact ⟨N, by omega, Or.inr ⟨rfl, rfl, rfl, 0, rfl, by omega, rfl⟩⟩)
        | (refine ⟨N - (k + 1), by omega, Or.inr ⟨rfl, rfl, rfl, k + 1, ?_, by omega, rfl⟩⟩
           have e : (zit (fun i s => s + (zno (h2 82 (48 + (i : Int))) + zno (h2 82 (96 + (i : Int))))) (k + 1) 0) = z + (zno (h2 82 (48 + (k : Int))) + zno (h2 82 (96 + (k : Int)))) := by rw [zit, hz]
           rw [e]
           rfl)
    · obtain ⟨rfl, rfl, rfl, k, rfl, hkn, hm⟩ := hI
      have hbk : 0 ≤ (zit (fun i s => s + (zno (h2 82 (48 + (i : Int))) + zno (h2 82 (96 + (i : Int))))) k 0) ∧ (zit (fun i s => s + (zno (h2 82 (48 + (i : Int))) + zno (h2 82 (96 + (i : Int))))) k 0) ≤ 198 * (k : Int) := hb k (by omega)
      have r2 := zno_r (h2 82 (48 + (k : Int)))
      have r4 := zno_r (h2 82 (96 + (k : Int)))
      generalize hz : (zit (fun i s => s + (zno (h2 82 (48 + (i : Int))) + zno (h2 82 (96 + (i : Int))))) k 0) = z at *
      refine And.intro (by omega) ?_
      constructor
      · intro c2
        refine And.intro (by omega) ?_
        refine And.intro (by omega) ?_
        refine s_131 ?_
        refine And.intro (by omega) ?_
        refine And.intro (by omega) ?_
        refine s_131 ?_
        refine And.intro (by show _ ≤ zno (h2 82 (48 + (k : Int))) + zno (h2 82 (96 + (k : Int))) ∧ zno (h2 82 (48 + (k : Int))) + zno (h2 82 (96 + (k : Int))) < _; omega) ?_
        refine And.intro (by show _ ≤ z + (zno (h2 82 (48 + (k : Int))) + zno (h2 82 (96 + (k : Int)))) ∧ z + (zno (h2 82 (48 + (k : Int))) + zno (h2 82 (96 + (k : Int)))) < _; omega) ?_
        refine And.intro (by omega) ?_
        first
        | (have hk6 : k = 6 := by omega
           subst hk6
           exact ⟨N, by omega, Or.inr ⟨rfl, rfl, rfl, 0, rfl, by omega, rfl⟩⟩)
        | (refine ⟨N - (k + 1), by omega, Or.inr ⟨rfl, rfl, rfl, k + 1, ?_, by omega, rfl⟩⟩
           have e : (zit (fun i s => s + (zno (h2 82 (48 + (i : Int))) + zno (h2 82 (96 + (i : Int))))) (k + 1) 0) = z + (zno (h2 82 (48 + (k : Int))) + zno (h2 82 (96 + (k : Int)))) := by rw [zit, hz]
           rw [e]
           rfl)
      · intro c2
        constructor
        · intro c3
          refine And.intro (by omega) ?_
          constructor
          · intro c4
            refine And.intro (by omega) ?_
            constructor
            · intro c5
              refine And.intro (by omega) ?_
              have hq := q0 (by omega)
              first
              | (rw [if_pos (by assumption), if_pos (by assumption)] at hq; exact hq)
              | (rw [if_pos (by assumption), if_neg (by assumption)] at hq; exact hq)
              | (rw [if_neg (by assumption), if_pos (by assumption)] at hq; exact hq)
              | (rw [if_neg (by assumption), if_neg (by assumption)] at hq; exact hq)
            · intro c5
              refine And.intro (by omega) ?_
              have hq := q0 (by omega)
              first
              | (rw [if_pos (by assumption), if_pos (by assumption)] at hq; exact hq)
              | (rw [if_pos (by assumption), if_neg (by assumption)] at hq; exact hq)
              | (rw [if_neg (by assumption), if_pos (by assumption)] at hq; exact hq)
              | (rw [if_neg (by assumption), if_neg (by assumption)] at hq; exact hq)
          · intro c4
            refine And.intro (by omega) ?_
            constructor
            · intro c6
              refine And.intro (by omega) ?_
              have hq := q0 (by omega)
              first
              | (rw [if_pos (by assumption), if_pos (by assumption)] at hq; exact hq)
              | (rw [if_pos (by assumption), if_neg (by assumption)] at hq; exact hq)
              | (rw [if_neg (by assumption), if_pos (by assumption)] at hq; exact hq)
              | (rw [if_neg (by assumption), if_neg (by assumption)] at hq; exact hq)
            · intro c6
              refine And.intro (by omega) ?_
              have hq := q0 (by omega)
              first
              | (rw [if_pos (by assumption), if_pos (by assumption)] at hq; exact hq)
              | (rw [if_pos (by assumption), if_neg (by assumption)] at hq; exact hq)
              | (rw [if_neg (by assumption), if_pos (by assumption)] at hq; exact hq)
              | (rw [if_neg (by assumption), if_neg (by assumption)] at hq; exact hq)
        · intro c3
          constructor
          · intro c7
            exact q1 (by omega)
          · intro c7
            constructor
            · intro c8
              refine And.intro (by omega) ?_
              constructor
              · intro c9
                have hq := q2 (by omega)
                first
                | (rw [if_pos (by assumption)] at hq; exact hq)
                | (rw [if_neg (by assumption)] at hq; exact hq)
              · intro c9
                refine And.intro (by omega) ?_
                have hq := q2 (by omega)
                first
                | (rw [if_pos (by assumption)] at hq; exact hq)
                | (rw [if_neg (by assumption)] at hq; exact hq)
            · intro c8
              constructor
              · intro c10
                exact q3 (by omega)
              · intro c10
                constructor
                · intro c11
                  have hk6 : k = N := by omega
                  subst hk6
                  rw [hz] at q4
                  exact q4 (by omega)
                · intro c11
                  exact qb (by omega)
set_option maxHeartbeats 4000000 in
set_option maxRecDepth 100000 in
/-- Sheet.faultOfPair -/
theorem s_186w {b : Nat} (hb : zSh b) {l i : Int} {h : zM} {Q : zQ} (hl : h b 2 ≤ 40) (h3 : ¬ h b 1 = -4 → ¬ h b 1 = l → Q (some (.inl 3)) h) (h1 : h b 1 = -4 → Q (some (.inl 1)) h) (h2 : h b 1 = l → ¬ h b 1 = -4 → ¬ (0 ≤ i ∧ i + 1 < h b 2) → Q (some (.inl 2)) h) (h0 : h b 1 = l → ¬ h b 1 = -4 → 0 ≤ i ∧ i + 1 < h b 2 → Q (some (.inl 0)) h) : zR 186 [.inr (.inr b), .inl l, .inl i] h Q := by
  have l74 : zx_ln 74 = (40 : Int) := rfl
  have l76 : zx_ln 76 = (40 : Int) := rfl
  have l78 : zx_ln 78 = (40 : Int) := rfl
  have l80 : zx_ln 80 = (40 : Int) := rfl
  rcases hb with rfl | rfl | rfl | rfl
  all_goals
    refine zx_met0 zk_186 (Or.inr ⟨_, _, rfl, rfl⟩) (Nat.le_of_ble_eq_true rfl) 1000 (fun hok hM => ?_)
    constructor
    · intro c1
      refine s_185 (by first | assumption | (unfold zSh; omega)) (fun d1 => ?_) (fun d1 d2 => ?_) (fun d1 d2 => ?_)
      · refine And.intro (fun c => absurd c (by decide)) (fun _ => ?_)
        first | exact h1 (by omega) | exact h3 (by omega) (by omega) | exact h2 (by omega) (by omega) (by omega) | exact h0 (by omega) (by omega) (by omega) | (exfalso; omega)
      · refine And.intro (fun c => absurd c (by decide)) (fun _ => ?_)
        first | exact h1 (by omega) | exact h3 (by omega) (by omega) | exact h2 (by omega) (by omega) (by omega) | exact h0 (by omega) (by omega) (by omega) | (exfalso; omega)
      · refine And.intro (fun _ => ?_) (fun c => absurd (by decide) c)
        refine And.intro (by omega) ?_
        refine s_185 (by first | assumption | (unfold zSh; omega)) (fun d1 => ?_) (fun d1 d2 => ?_) (fun d1 d2 => ?_)
        · first | exact h1 (by omega) | exact h3 (by omega) (by omega) | exact h2 (by omega) (by omega) (by omega) | exact h0 (by omega) (by omega) (by omega) | (exfalso; omega)
        · first | exact h1 (by omega) | exact h3 (by omega) (by omega) | exact h2 (by omega) (by omega) (by omega) | exact h0 (by omega) (by omega) (by omega) | (exfalso; omega)
        · first | exact h1 (by omega) | exact h3 (by omega) (by omega) | exact h2 (by omega) (by omega) (by omega) | exact h0 (by omega) (by omega) (by omega) | (exfalso; omega)
    · intro c1
      constructor
      · intro c2
        refine s_185 (by first | assumption | (unfold zSh; omega)) (fun d1 => ?_) (fun d1 d2 => ?_) (fun d1 d2 => ?_)
        · refine And.intro (fun c => absurd c (by decide)) (fun _ => ?_)
          first | exact h1 (by omega) | exact h3 (by omega) (by omega) | exact h2 (by omega) (by omega) (by omega) | exact h0 (by omega) (by omega) (by omega) | (exfalso; omega)
        · refine And.intro (fun c => absurd c (by decide)) (fun _ => ?_)
          first | exact h1 (by omega) | exact h3 (by omega) (by omega) | exact h2 (by omega) (by omega) (by omega) | exact h0 (by omega) (by omega) (by omega) | (exfalso; omega)
        · refine And.intro (fun _ => ?_) (fun c => absurd (by decide) c)
          refine And.intro (by omega) ?_
          refine s_185 (by first | assumption | (unfold zSh; omega)) (fun d1 => ?_) (fun d1 d2 => ?_) (fun d1 d2 => ?_)
          · first | exact h1 (by omega) | exact h3 (by omega) (by omega) | exact h2 (by omega) (by omega) (by omega) | exact h0 (by omega) (by omega) (by omega) | (exfalso; omega)
          · first | exact h1 (by omega) | exact h3 (by omega) (by omega) | exact h2 (by omega) (by omega) (by omega) | exact h0 (by omega) (by omega) (by omega) | (exfalso; omega)
          · first | exact h1 (by omega) | exact h3 (by omega) (by omega) | exact h2 (by omega) (by omega) (by omega) | exact h0 (by omega) (by omega) (by omega) | (exfalso; omega)
      · intro c2
        first | exact h1 (by omega) | exact h3 (by omega) (by omega) | exact h2 (by omega) (by omega) (by omega) | exact h0 (by omega) (by omega) (by omega) | (exfalso; omega)
