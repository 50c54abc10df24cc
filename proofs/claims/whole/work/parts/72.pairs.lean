/-! read with no sheet -/
theorem s_25_b {k l f n : Int} (hk : ¬ (0 ≤ k ∧ k < 4)) {h : zM} {Q : zQ} (hq : Q (some (.inl (-1))) h) : zR 25 [.inr (.inr 0), .inl k, .inl l, .inl f, .inl n] h Q := by
  refine zx_met zk_25 (Or.inr ⟨_, _, rfl, rfl⟩) (Nat.le_of_ble_eq_true rfl) (fun _ => false) 1000 (fun _ _ _ _ _ => False) (fun hok hM => ?_) (fun hok hM => ?_)
  · refine s_40 (fun cv => absurd cv hk) (fun cv => ?_)
    refine And.intro (fun _ => ?_) (fun c => absurd (by decide) c)
    exact hq
  · rintro q i L S h2 hM2 hI
    exact hI.elim
