/-! CONTRACTS: the reference's words -/
def zends : List Int := [0, 3, 6, 10, 12, 16, 21, 25, 29, 33, 37]
def zlets : List Int := [115, 101, 116, 115, 97, 121, 103, 111, 116, 111, 105, 102, 115, 116, 111, 112, 98, 108, 111, 99, 107, 112, 108, 117, 115, 108, 101, 115, 115, 115, 97, 109, 101, 109, 111, 114, 101]
/-- the rows of words as they are from the start -/
def zWc (h : zM) : Prop := (∀ k : Nat, k < 11 → h 84 (k : Int) = zends.getD k 0) ∧ ∀ k : Nat, k < 37 → h 85 (k : Int) = zlets.getD k 0
/-- word w of the reference -/
def zpw (w : Nat) : List Int := (zlets.drop (zends.getD w 0).toNat).take ((zends.getD (w + 1) 0).toNat - (zends.getD w 0).toNat)
theorem zpw_l : ∀ w, w < 10 → 0 ≤ zends.getD w 0 ∧ ((zpw w).length : Int) = zends.getD (w + 1) 0 - zends.getD w 0 ∧ zends.getD (w + 1) 0 ≤ 37 ∧ (zpw w).length ≤ 5 := by decide +kernel
theorem zpw_c : ∀ w, w < 10 → ∀ k, k < (zpw w).length → (zpw w).getD k 0 = zlets.getD ((zends.getD w 0).toNat + k) 0 := by decide +kernel
set_option maxHeartbeats 4000000 in
set_option maxRecDepth 100000 in
/-- M.showsWord -/
theorem s_99 {s : List Int} {h : zM} (hs : zPg h s) (hc : zWc h) {w : Nat} (hw : w < 10) {Q : zQ} (hl : s.length + 5 ≤ 800) (hq : ∀ h2, zF zPf h h2 → zPg h2 (s ++ zpw w) → Q none h2) : zR 99 [.inr (.inr 81), .inl (w : Int)] h Q := by
  have l84 : zx_ln 84 = (11 : Int) := rfl
  have l85 : zx_ln 85 = (37 : Int) := rfl
  have wl := zpw_l w hw
  have wc := zpw_c w hw
  have w0 := hc.1 w (by omega)
  have w1 := hc.1 (w + 1) (by omega)
  have w1 : h 84 ((w : Int) + 1) = _ := w1
  refine zx_met zk_99 (Or.inr ⟨_, _, rfl, rfl⟩) (Nat.le_of_ble_eq_true rfl) (fun _ => false) 1000 (fun m i L S h2 => i = 5 ∧ S = [] ∧ ∃ (k : Nat) (x : Int), x = zends.getD w 0 + (k : Int) ∧ L = [some (.inr (.inr 81)), some (.inl (w : Int)), some (.inl x)] ∧ k ≤ (zpw w).length ∧ m = (zpw w).length - k ∧ zF zPf h h2 ∧ zPg h2 (s ++ (zpw w).take k)) (fun hok hM => ?_) (fun hok hM => ?_)
  · refine And.intro (by omega) ?_
    exact ⟨(zpw w).length, rfl, rfl, 0, _, by rw [w0]; omega, rfl, by omega, rfl, zF.rf, by simpa using hs⟩
  · rintro m i L S h2 hM2 ⟨rfl, rfl, k, x, hx, rfl, hk, hm, hF, hs2⟩
    have e1 : h2 84 ((w : Int) + 1) = zends.getD (w + 1) 0 := (hF 84 _ rfl).trans w1
    refine And.intro (by omega) ?_
    refine And.intro (by omega) ?_
    constructor
    · intro c1
      refine And.intro (by omega) ?_
      have hxk : ((((zends.getD w 0).toNat + k : Nat)) : Int) = x := by omega
      have hcx := hc.2 ((zends.getD w 0).toNat + k) (by omega)
      rw [hxk, ← wc k (by omega)] at hcx
      have hcy := (hF 85 x rfl).trans hcx
      refine s_97 hs2 (by rw [List.length_append, List.length_take]; omega) (fun h3 hG hs3 => ?_)
      rw [hcy, List.append_assoc, ← ztake_s (by omega)] at hs3
      refine And.intro (by omega) ?_
      exact ⟨(zpw w).length - (k + 1), by omega, rfl, rfl, k + 1, x + 1, by omega, rfl, by omega, rfl, hF.tr hG, hs3⟩
    · intro c1
      have hk2 : k = (zpw w).length := by omega
      rw [hk2, List.take_length] at hs2
      exact hq _ hF hs2
