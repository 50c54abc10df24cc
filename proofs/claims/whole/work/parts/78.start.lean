/-! The invariant holds at the start; all pairs -/
theorem zx_h0e {r : Nat} (hr : zx_h0w r = []) (k : Int) : zx_h0 r k = 0 := by
  unfold zx_h0
  rw [hr]
  split <;> rfl
theorem zI0 : zInv zx_h0 := by
  refine ⟨(0, fun _ _ => 0, 0, fun _ _ => 0, fun _ => -1, 1), ⟨0, fun _ => 0, ⟨(by decide +kernel), by omega, fun i hi => absurd hi (by omega)⟩, ⟨(by decide +kernel), by omega, fun i hi => absurd hi (by omega)⟩⟩, (show zx_h0 1 2 = zx_h0 81 3 by decide +kernel), ⟨⟨(show zx_h0 12 7 = 0 by decide +kernel), (show zx_h0 12 8 = 0 by decide +kernel), fun p w hp => absurd hp (Nat.not_lt_zero p), fun p w hp => absurd hp (Nat.not_lt_zero p), fun v v0 v6 => ?_, (show zx_h0 44 2 = 1 by decide +kernel)⟩, ⟨(show zx_h0 82 175 = 0 by decide +kernel), (show zx_h0 82 176 = 0 by decide +kernel), fun p w hp => absurd hp (Nat.not_lt_zero p), fun p w hp => absurd hp (Nat.not_lt_zero p), fun v v0 v6 => ?_, (show zx_h0 82 174 = 1 - 1 by decide +kernel)⟩, Nat.zero_le _, Nat.zero_le _, fun p hp => absurd hp (Nat.not_lt_zero p), fun p hp => absurd hp (Nat.not_lt_zero p), fun v v0 v6 => ⟨Int.le_refl _, (show (-1 : Int) ≤ 99 by decide)⟩, Or.inr rfl⟩, ⟨⟨(show zx_h0 51 0 = zx_h0 103 0 by decide +kernel), fun q => absurd (show zx_h0 51 0 = 0 by decide +kernel) q⟩, ⟨(show zx_h0 51 1 = zx_h0 103 1 by decide +kernel), fun q => absurd (show zx_h0 51 1 = 0 by decide +kernel) q⟩⟩, zCp.w _ (by decide +kernel), zMp.w _ (by decide +kernel), ⟨by decide +kernel, by decide +kernel⟩, fun v v0 v6 => ?_, ⟨(show zx_h0 0 15 = zx_h0 81 36 by decide +kernel), fun q => absurd (show zx_h0 0 15 = 0 by decide +kernel) q⟩, fun k k0 k4 => ?_, (show zx_h0 0 13 = zx_h0 81 45 by decide +kernel)⟩
  · rcases (show v = 0 ∨ v = 1 ∨ v = 2 ∨ v = 3 ∨ v = 4 ∨ v = 5 by omega) with rfl | rfl | rfl | rfl | rfl | rfl <;> decide +kernel
  · show zx_h0 82 (0 + (168 + v)) = -1 + 1
    rw [zx_h0e rfl]
    rfl
  · rw [zx_h0e (r := 70) rfl, zx_h0e (r := 98) rfl]
    omega
  · rcases (show k = 0 ∨ k = 1 ∨ k = 2 ∨ k = 3 by omega) with rfl | rfl | rfl | rfl
    · exact ⟨(show zx_h0 73 1 = zx_h0 104 0 by decide +kernel), (show zx_h0 73 2 = zx_h0 105 0 by decide +kernel), by decide +kernel, fun i _ _ => (zx_h0e (r := 74) rfl i).trans (zx_h0e (r := 106) rfl _).symm⟩
    · exact ⟨(show zx_h0 75 1 = zx_h0 104 1 by decide +kernel), (show zx_h0 75 2 = zx_h0 105 1 by decide +kernel), by decide +kernel, fun i _ _ => (zx_h0e (r := 76) rfl i).trans (zx_h0e (r := 106) rfl _).symm⟩
    · exact ⟨(show zx_h0 77 1 = zx_h0 104 2 by decide +kernel), (show zx_h0 77 2 = zx_h0 105 2 by decide +kernel), by decide +kernel, fun i _ _ => (zx_h0e (r := 78) rfl i).trans (zx_h0e (r := 106) rfl _).symm⟩
    · exact ⟨(show zx_h0 79 1 = zx_h0 104 3 by decide +kernel), (show zx_h0 79 2 = zx_h0 105 3 by decide +kernel), by decide +kernel, fun i _ _ => (zx_h0e (r := 80) rfl i).trans (zx_h0e (r := 106) rfl _).symm⟩
theorem zI_all : ∀ q ∈ zl_cases, zPair zInv q.2.2.1 q.2.2.2 q.2.1 := by
  unfold zl_cases
  exact List.forall_mem_cons.mpr ⟨pq_0, List.forall_mem_cons.mpr ⟨pq_1, List.forall_mem_cons.mpr ⟨pq_2, List.forall_mem_cons.mpr ⟨pq_3, List.forall_mem_cons.mpr ⟨pq_4, List.forall_mem_cons.mpr ⟨pq_5, List.forall_mem_cons.mpr ⟨pq_6, List.forall_mem_cons.mpr ⟨pq_7, List.forall_mem_cons.mpr ⟨pq_8, List.forall_mem_cons.mpr ⟨pq_9, List.forall_mem_cons.mpr ⟨pq_10, List.forall_mem_cons.mpr ⟨pq_11, List.forall_mem_cons.mpr ⟨pq_12, List.forall_mem_cons.mpr ⟨pq_13, List.forall_mem_cons.mpr ⟨pq_14, List.forall_mem_cons.mpr ⟨pq_15, List.forall_mem_cons.mpr ⟨pq_16, List.forall_mem_cons.mpr ⟨pq_17, List.forall_mem_cons.mpr ⟨pq_18, List.forall_mem_cons.mpr ⟨pq_19, List.forall_mem_cons.mpr ⟨pq_20, List.forall_mem_cons.mpr ⟨pq_21, List.forall_mem_cons.mpr ⟨pq_22, List.forall_mem_cons.mpr ⟨pq_23, List.forall_mem_cons.mpr ⟨pq_24, List.forall_mem_cons.mpr ⟨pq_25, List.forall_mem_cons.mpr ⟨pq_26, List.forall_mem_cons.mpr ⟨pq_27, fun _ h => absurd h List.not_mem_nil⟩⟩⟩⟩⟩⟩⟩⟩⟩⟩⟩⟩⟩⟩⟩⟩⟩⟩⟩⟩⟩⟩⟩⟩⟩⟩⟩⟩
