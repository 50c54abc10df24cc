/-! CONTRACTS: words -/
/-- the constant text i -/
def zwd (i : Nat) : List Int := (zc_bS.getD i []).map Int32.toInt
theorem zwd_l : ∀ i, i < 13 → (zwd i).length = zc_lS.getD i 0 ∧ (zwd i).length ≤ 6 := by decide +kernel
theorem zwd_c : ∀ i, i < 13 → ∀ k, k < zc_lS.getD i 0 → (zwd i).getD k 0 = ((zc_bS.getD i []).getD k 0).toInt ∧ -128 ≤ (zwd i).getD k 0 ∧ (zwd i).getD k 0 < 128 := by decide +kernel
theorem ztake_s {w : List Int} {k : Nat} (hk : k < w.length) : w.take (k + 1) = w.take k ++ [w.getD k 0] := by
  rw [List.take_succ]
  simp [List.getD, hk]
set_option maxHeartbeats 4000000 in
set_option maxRecDepth 100000 in
/-- Letters.addWord -/
theorem s_141 {b : Nat} (hb : zLb b) {s : List Int} {h : zM} (hs : zLt h b s) {i : Nat} (hi : i < 13) {Q : zQ} (hl : s.length + (zwd i).length ≤ 512) (hq : ∀ h2, zF (zLf b) h h2 → zLt h2 b (s ++ zwd i) → Q none h2) : zR 141 [.inr (.inr b), .inr (.inr (1000 + i))] h Q := by
  obtain ⟨B, hB⟩ : ∃ B, B = b := ⟨_, rfl⟩
  have wl := zwd_l i hi
  have wc := zwd_c i hi
  rcases hb with rfl | rfl
  all_goals
    refine zx_met zk_141 (Or.inr ⟨_, _, rfl, rfl⟩) (Nat.le_of_ble_eq_true rfl) (fun _ => false) 1000 (fun m j L S h2 => j = 2 ∧ S = [] ∧ ∃ k : Nat, L = [some (.inr (.inr B)), some (.inr (.inr (1000 + i))), some (.inl (k : Int))] ∧ k ≤ (zwd i).length ∧ m = (zwd i).length - k ∧ zF (zLf B) h h2 ∧ zLt h2 B (s ++ (zwd i).take k)) (fun hok hM => ?_) (fun hok hM => ?_)
    · subst hB
      exact ⟨(zwd i).length, rfl, rfl, 0, rfl, by omega, rfl, zF.rf, by simpa using hs⟩
    · subst hB
      rintro m j L S h2 hM2 ⟨rfl, rfl, k, rfl, hk, hm, hF, hs2⟩
      refine s_202 hi ?_
      constructor
      · intro c1
        have hc := wc k (by omega)
        refine s_203 hi (by omega) (by omega) ?_
        refine s_140 (by first | exact Or.inl rfl | exact Or.inr rfl) hs2 (by rw [List.length_append, List.length_take]; omega) (by rw [Int.toNat_natCast, ← hc.1]; exact hc.2) (fun h3 hG hs3 => ?_)
        refine And.intro (by omega) ?_
        refine ⟨(zwd i).length - (k + 1), by omega, rfl, rfl, k + 1, rfl, by omega, rfl, hF.tr hG, ?_⟩
        rw [Int.toNat_natCast, ← hc.1, List.append_assoc, ← ztake_s (by omega)] at hs3
        exact hs3
      · intro c1
        have hk2 : k = (zwd i).length := by omega
        rw [hk2, List.take_length] at hs2
        exact hq _ hF hs2
