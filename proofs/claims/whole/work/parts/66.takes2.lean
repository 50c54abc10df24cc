/-! The reference's reader: numbers, variables, operands, line ends -/
set_option maxHeartbeats 4000000 in
set_option maxRecDepth 100000 in
theorem s_56b {h : zM} (hb : 0 < h 81 4) {Q : zQ} (hq : Q none h) : zR 56 [.inr (.inr 81)] h Q := by
  refine zx_met zk_56 (Or.inr ⟨_, _, rfl, rfl⟩) (Nat.le_of_ble_eq_true rfl) (fun _ => false) 1000 (fun _ _ _ _ _ => False) (fun hok hM => ?_) (fun hok hM => ?_)
  · refine And.intro (fun _ => ?_) (fun c1 => absurd hb c1)
    exact hq
  · intro n i L S h2 hM2 h9
    exact h9.elim
theorem s_56x {h : zM} {n : Nat} {t : Nat → Int} (ht : zTq h n t) {x : (Int × Nat) ⊕ zTk} (hs : zMs h n x) {Q : zQ} (hq : ∀ h2, zF zRm h h2 → zMs h2 n (zbd x fun k => ztk n t k.2.1) → Q none h2) : zR 56 [.inr (.inr 81)] h Q := by
  cases x with
  | inl e =>
    have h1 := hs.1 e rfl
    exact s_56b (by omega) (hq _ zF.rf hs)
  | inr k =>
    obtain ⟨h4, hk, hb⟩ := hs.2 k rfl
    exact s_56c ht hb.2.1 h4 hk.2.1 hq
theorem s_54k {h : zM} {n : Nat} (h320 : n ≤ 320) {k : zTk} (h4 : h 81 4 = 0) (hk : zTm h k) (hb : zTb n k) {c : Int} (hc : 0 < c) {Q : zQ} (hq : ∀ h2, zF zRm h h2 → zMs h2 n (.inl (c, k.1)) → 0 < h2 81 4 → Q none h2) : zR 54 [.inr (.inr 81), .inl c] h Q := by
  refine s_54 (fun _ => ?_) (fun q => absurd h4 q)
  have h7 := hk.1
  have h6 := hk.2.1
  have b1 := hb.1
  have b2 := hb.2.1
  have e4 : zx_st (zx_st h 81 4 c) 81 5 (h 81 7) 81 4 = c := by rw [zst_ne (by decide), zst_eq]
  refine hq _ ((zF.rf.st rfl).st rfl) (zMs_l e4 hc ?_ ?_ ?_) (by omega)
  · rw [zst_eq]; exact h7
  · show 0 ≤ h 81 7 ∧ h 81 7 ≤ 320
    omega
  · show 0 ≤ h 81 6 ∧ h 81 6 ≤ 320
    omega
set_option maxHeartbeats 4000000 in
set_option maxRecDepth 100000 in
/-- M.numberRead -/
theorem s_57c {h : zM} {n : Nat} {t : Nat → Int} (ht : zTq h n t) {k : zTk} (h4 : h 81 4 = 0) (hk : zTm h k) (hb : zTb n k) {w : Int} {Q : zQ} (hq : ∀ h2 v, zF zRm h h2 → zMs h2 n (if k.2.2.1 = 2 ∧ w < k.2.2.2 then .inl (3, k.1) else zta n t k (if k.2.2.1 = 2 then k.2.2.2 else -4)) → (∀ k2, (if k.2.2.1 = 2 ∧ w < k.2.2.2 then .inl (3, k.1) else zta n t k (if k.2.2.1 = 2 then k.2.2.2 else -4)) = .inr k2 → v = k.2.2.2) → Q (some (.inl v)) h2) : zR 57 [.inr (.inr 81), .inl w] h Q := by
  have n320 := ht.2.1
  obtain ⟨k7, k6, k8, k9⟩ := id hk
  have b4 := hb.2.2.2
  refine zx_met0 zk_57 (Or.inr ⟨_, _, rfl, rfl⟩) (Nat.le_of_ble_eq_true rfl) 1000 (fun hok hM => ?_)
  refine And.intro (fun c1 => ?_) (fun c1 => absurd (by omega) c1)
  constructor
  · intro c2
    refine And.intro (fun c3 => ?_) (fun c3 => absurd (by omega) c3)
    constructor
    · intro c4
      have k92 := k9 (by omega)
      refine s_54k n320 h4 hk hb (by omega) (fun h2 hF2 hs2 e4 => ?_)
      refine And.intro (fun c => absurd c (by omega)) (fun _ => ?_)
      refine s_56b (by omega) ?_
      rw [if_pos ⟨by omega, by omega⟩] at hq
      exact hq _ _ hF2 hs2 (fun _ q => by cases q)
    · intro c4
      refine And.intro (fun c5 => ?_) (fun c5 => absurd (by omega) c5)
      have k92 := k9 (by omega)
      have b42 := b4 (by omega)
      rw [if_neg (by omega), if_pos (by omega)] at hq
      unfold zta at hq
      rw [if_neg (by omega)] at hq
      refine s_56c ht hb.2.1 h4 k6 (fun h2 hF2 hs2 => ?_)
      exact hq _ _ hF2 hs2 (fun _ _ => k92)
  · intro c2
    refine s_54k n320 h4 hk hb (by omega) (fun h2 hF2 hs2 e4 => ?_)
    refine And.intro (fun c => absurd c (by omega)) (fun _ => ?_)
    refine And.intro (fun c => absurd c (by omega)) (fun _ => ?_)
    refine s_56b (by omega) ?_
    rw [if_neg (by omega), if_neg (by omega)] at hq
    unfold zta at hq
    rw [if_pos (by omega)] at hq
    exact hq _ _ hF2 hs2 (fun _ q => by cases q)
set_option maxHeartbeats 4000000 in
set_option maxRecDepth 100000 in
/-- M.variableRead -/
theorem s_58c {h : zM} {n : Nat} {t : Nat → Int} (ht : zTq h n t) {k : zTk} (h4 : h 81 4 = 0) (hk : zTm h k) (hb : zTb n k) {Q : zQ} (hq : ∀ h2 v, zF zRm h h2 → zMs h2 n (zta n t k (zvh n t k)) → (0 ≤ v ∧ v < 6) → (∀ k2, zta n t k (zvh n t k) = .inr k2 → v = zvh n t k) → Q (some (.inl v)) h2) : zR 58 [.inr (.inr 81)] h Q := by
  have n320 := ht.2.1
  obtain ⟨k7, k6, k8, k9⟩ := id hk
  have b1 := hb.1
  have b2 := hb.2.1
  have hbb := zbt_b (fun i (hi : i < n) => (ht.2.2 i hi).2) k.1
  have hve : zvh n t k = (if k.2.2.1 = 1 ∧ k.2.1 = k.1 + 1 ∧ 97 ≤ zbt n t k.1 ∧ zbt n t k.1 < 103 then zbt n t k.1 - 97 else -4) := rfl
  refine zx_met0 zk_58 (Or.inr ⟨_, _, rfl, rfl⟩) (Nat.le_of_ble_eq_true rfl) 1000 (fun hok hM => ?_)
  constructor
  · intro c1
    refine And.intro (by omega) ?_
    constructor
    · intro c2
      refine s_53t ht (p := k.1) k7 ?_
      refine s_50 (fun a1 => ?_) (fun a1 => ?_)
      · refine And.intro (fun c => absurd c (by decide)) (fun _ => ?_)
        refine And.intro (fun c3 => ?_) (fun c3 => absurd (by omega) c3)
        refine And.intro (fun c => absurd c (by decide)) (fun _ => ?_)
        refine And.intro (fun c4 => ?_) (fun c4 => absurd (by omega) c4)
        refine s_53t ht (p := k.1) k7 ?_
        refine And.intro (by omega) ?_
        rw [if_pos (by omega)] at hve
        unfold zta at hq
        rw [if_neg (by omega)] at hq
        refine s_56c ht hb.2.1 h4 k6 (fun h2 hF2 hs2 => ?_)
        exact hq _ _ hF2 hs2 (by omega) (fun _ _ => hve.symm)
      · refine And.intro (fun _ => ?_) (fun c => absurd (by decide) c)
        refine And.intro (fun c5 => ?_) (fun c5 => absurd (by omega) c5)
        refine And.intro (fun _ => ?_) (fun c => absurd (by decide) c)
        refine s_54k n320 h4 hk hb (by omega) (fun h2 hF2 hs2 e4 => ?_)
        refine And.intro (fun c => absurd c (by omega)) (fun _ => ?_)
        refine s_56b (by omega) ?_
        rw [if_neg (by omega)] at hve
        unfold zta at hq
        rw [if_pos (by omega)] at hq
        exact hq _ _ hF2 hs2 (by omega) (fun _ q => by cases q)
    · intro c2
      refine And.intro (fun c6 => ?_) (fun c6 => absurd (by omega) c6)
      refine And.intro (fun _ => ?_) (fun c => absurd (by decide) c)
      refine s_54k n320 h4 hk hb (by omega) (fun h2 hF2 hs2 e4 => ?_)
      refine And.intro (fun c => absurd c (by omega)) (fun _ => ?_)
      refine s_56b (by omega) ?_
      rw [if_neg (by omega)] at hve
      unfold zta at hq
      rw [if_pos (by omega)] at hq
      exact hq _ _ hF2 hs2 (by omega) (fun _ q => by cases q)
  · intro c1
    refine And.intro (fun c7 => ?_) (fun c7 => absurd (by omega) c7)
    refine And.intro (fun _ => ?_) (fun c => absurd (by decide) c)
    refine s_54k n320 h4 hk hb (by omega) (fun h2 hF2 hs2 e4 => ?_)
    refine And.intro (fun c => absurd c (by omega)) (fun _ => ?_)
    refine s_56b (by omega) ?_
    rw [if_neg (by omega)] at hve
    unfold zta at hq
    rw [if_pos (by omega)] at hq
    exact hq _ _ hF2 hs2 (by omega) (fun _ q => by cases q)
set_option maxHeartbeats 4000000 in
set_option maxRecDepth 100000 in
/-- M.variableRead -/
theorem s_58b {h : zM} {n : Nat} {t : Nat → Int} (ht : zTq h n t) {e : Int × Nat} (hs : zMs h n (.inl e)) {Q : zQ} (hq : Q (some (.inl 0)) h) : zR 58 [.inr (.inr 81)] h Q := by
  have n320 := ht.2.1
  obtain ⟨e1, e2, e3, e4, e5⟩ := hs.1 e rfl
  obtain ⟨p7, hp7⟩ : ∃ p7 : Nat, h 81 7 = (p7 : Int) := ⟨(h 81 7).toNat, by omega⟩
  refine zx_met0 zk_58 (Or.inr ⟨_, _, rfl, rfl⟩) (Nat.le_of_ble_eq_true rfl) 1000 (fun hok hM => ?_)
  constructor
  · intro c1
    refine And.intro (by omega) ?_
    constructor
    · intro c2
      refine s_53t ht (p := p7) hp7 ?_
      refine s_50 (fun a1 => ?_) (fun a1 => ?_)
      · refine And.intro (fun c => absurd c (by decide)) (fun _ => ?_)
        refine And.intro (fun c3 => absurd c3 (by omega)) (fun c3 => ?_)
        refine And.intro (fun c4 => absurd c4 (by omega)) (fun c4 => ?_)
        refine s_56b (by omega) ?_
        exact hq
      · refine And.intro (fun _ => ?_) (fun c => absurd (by decide) c)
        refine And.intro (fun c5 => absurd c5 (by omega)) (fun c5 => ?_)
        refine And.intro (fun c6 => absurd c6 (by omega)) (fun c6 => ?_)
        refine s_56b (by omega) ?_
        exact hq
    · intro c2
      refine And.intro (fun c7 => absurd c7 (by omega)) (fun c7 => ?_)
      refine And.intro (fun c8 => absurd c8 (by omega)) (fun c8 => ?_)
      refine s_56b (by omega) ?_
      exact hq
  · intro c1
    refine And.intro (fun c9 => absurd c9 (by omega)) (fun c9 => ?_)
    refine And.intro (fun c10 => absurd c10 (by omega)) (fun c10 => ?_)
    refine s_56b (by omega) ?_
    exact hq
set_option maxHeartbeats 4000000 in
set_option maxRecDepth 100000 in
/-- M.numberRead -/
theorem s_57b {h : zM} {n : Nat} {e : Int × Nat} (hs : zMs h n (.inl e)) {w : Int} {Q : zQ} (hq : Q (some (.inl 0)) h) : zR 57 [.inr (.inr 81), .inl w] h Q := by
  obtain ⟨e1, e2, e3, e4, e5⟩ := hs.1 e rfl
  refine zx_met0 zk_57 (Or.inr ⟨_, _, rfl, rfl⟩) (Nat.le_of_ble_eq_true rfl) 1000 (fun hok hM => ?_)
  refine And.intro (fun c1 => absurd c1 (by omega)) (fun c1 => ?_)
  refine And.intro (fun c2 => absurd c2 (by omega)) (fun c2 => ?_)
  refine And.intro (fun c3 => absurd c3 (by omega)) (fun c3 => ?_)
  refine s_56b (by omega) ?_
  exact hq
theorem s_57x {h : zM} {n : Nat} {t : Nat → Int} (ht : zTq h n t) {x : (Int × Nat) ⊕ zTk} (hs : zMs h n x) {Q : zQ} (hq : ∀ h2 v, zF zRm h h2 → zMs h2 n (zbd x fun k => zbn n t k) → (∀ k k2, x = .inr k → zbn n t k = .inr k2 → v = k.2.2.2) → Q (some (.inl v)) h2) : zR 57 [.inr (.inr 81), .inl 7] h Q := by
  cases x with
  | inl e => exact s_57b hs (hq _ _ zF.rf hs (fun _ _ q => by cases q))
  | inr k =>
    obtain ⟨h4, hk, hb⟩ := hs.2 k rfl
    have e : (if k.2.2.1 = 2 ∧ (7 : Int) < k.2.2.2 then .inl (3, k.1) else zta n t k (if k.2.2.1 = 2 then k.2.2.2 else -4)) = zbn n t k := by
      unfold zbn
      by_cases q : k.2.2.1 = 2 ∧ (7 : Int) < k.2.2.2
      · rw [if_pos q, if_pos (by omega)]
      · rw [if_neg q, if_neg (show ¬ (k.2.2.1 = 2 ∧ 8 ≤ k.2.2.2) by omega)]
    refine s_57c ht h4 hk hb (w := 7) (fun h2 v hF2 hs2 hv => ?_)
    rw [e] at hs2 hv
    exact hq h2 v hF2 hs2 (fun k1 k2 q1 q2 => by cases q1; exact hv k2 q2)
theorem s_58x {h : zM} {n : Nat} {t : Nat → Int} (ht : zTq h n t) {x : (Int × Nat) ⊕ zTk} (hs : zMs h n x) {Q : zQ} (hq : ∀ h2 v, zF zRm h h2 → zMs h2 n (zbd x fun k => zta n t k (zvh n t k)) → (0 ≤ v ∧ v < 6) → (∀ k k2, x = .inr k → zta n t k (zvh n t k) = .inr k2 → v = zvh n t k) → Q (some (.inl v)) h2) : zR 58 [.inr (.inr 81)] h Q := by
  cases x with
  | inl e => exact s_58b ht hs (hq _ _ zF.rf hs (by omega) (fun _ _ q => by cases q))
  | inr k =>
    obtain ⟨h4, hk, hb⟩ := hs.2 k rfl
    exact s_58c ht h4 hk hb (fun h2 v hF2 hs2 hb2 hv => hq h2 v hF2 hs2 hb2 (fun k1 k2 q1 q2 => by cases q1; exact hv k2 q2))
set_option maxHeartbeats 4000000 in
set_option maxRecDepth 100000 in
/-- M.operandRead -/
theorem s_59x {h : zM} {n : Nat} {t : Nat → Int} (ht : zTq h n t) {x : (Int × Nat) ⊕ zTk} (hs : zMs h n x) {Q : zQ} (hq : ∀ h2 v, zF zRm h h2 → zMs h2 n (zbd x fun k => zta n t k (zoh n t k)) → (∀ k k2, x = .inr k → zta n t k (zoh n t k) = .inr k2 → v = zoh n t k) → Q (some (.inl v)) h2) : zR 59 [.inr (.inr 81)] h Q := by
  refine zx_met0 zk_59 (Or.inr ⟨_, _, rfl, rfl⟩) (Nat.le_of_ble_eq_true rfl) 1000 (fun hok hM => ?_)
  constructor
  · intro c1
    constructor
    · intro c2
      obtain ⟨k, rfl⟩ : ∃ k, x = .inr k := by
        cases x with
        | inl e => have := hs.1 e rfl; omega
        | inr k => exact ⟨k, rfl⟩
      obtain ⟨h4, hk, hb⟩ := hs.2 k rfl
      have k8 := hk.2.2.1
      have b4 := hb.2.2.2 (by omega)
      have e : (if k.2.2.1 = 2 ∧ (99 : Int) < k.2.2.2 then .inl (3, k.1) else zta n t k (if k.2.2.1 = 2 then k.2.2.2 else -4)) = zta n t k (zoh n t k) := by
        unfold zoh
        rw [if_neg (by omega), if_pos (show k.2.2.1 = 2 by omega), if_pos (show k.2.2.1 = 2 by omega)]
      have ez : zoh n t k = k.2.2.2 := by
        unfold zoh
        rw [if_pos (show k.2.2.1 = 2 by omega)]
      refine s_57c ht h4 hk hb (w := 99) (fun h2 v hF2 hs2 hv => ?_)
      rw [e] at hs2 hv
      first
      | (exact hq _ _ hF2 hs2 (fun k1 k2 q1 q2 => by cases q1; rw [ez]; exact hv k2 q2))
      | (have key : ∀ k, x = .inr k → zta n t k (zoh n t k) = zta n t k (zvh n t k) ∧ (0 ≤ zvh n t k → zoh n t k = 100 + zvh n t k) := by
           intro k q
           subst q
           obtain ⟨h4, hk, hb⟩ := hs.2 k rfl
           have k8 := hk.2.2.1
           have n2 : ¬ k.2.2.1 = 2 := by omega
           unfold zoh
           rw [if_neg n2]
           by_cases z : zvh n t k < 0
           · rw [if_pos z]
             unfold zta
             rw [if_pos (by omega), if_pos z]
             exact ⟨rfl, fun q => by omega⟩
           · rw [if_neg z]
             unfold zta
             rw [if_neg (by omega), if_neg z]
             exact ⟨rfl, fun _ => rfl⟩
         refine hq _ _ hF2 ?_ (fun k1 k2 q1 q2 => ?_)
         · cases x with
           | inl e => exact hs2
           | inr k =>
             show zMs h2 n (zta n t k (zoh n t k))
             rw [(key k rfl).1]
             exact hs2
         · rw [(key k1 q1).1] at q2
           have e1 := hv k1 k2 q1 q2
           rw [e1, (key k1 q1).2 (by omega)])
    · intro c2
      refine s_58x ht hs (fun h2 v hF2 hs2 hb2 hv => ?_)
      refine And.intro (by omega) ?_
      first
      | (exact hq _ _ hF2 hs2 (fun k1 k2 q1 q2 => by cases q1; rw [ez]; exact hv k2 q2))
      | (have key : ∀ k, x = .inr k → zta n t k (zoh n t k) = zta n t k (zvh n t k) ∧ (0 ≤ zvh n t k → zoh n t k = 100 + zvh n t k) := by
           intro k q
           subst q
           obtain ⟨h4, hk, hb⟩ := hs.2 k rfl
           have k8 := hk.2.2.1
           have n2 : ¬ k.2.2.1 = 2 := by omega
           unfold zoh
           rw [if_neg n2]
           by_cases z : zvh n t k < 0
           · rw [if_pos z]
             unfold zta
             rw [if_pos (by omega), if_pos z]
             exact ⟨rfl, fun q => by omega⟩
           · rw [if_neg z]
             unfold zta
             rw [if_neg (by omega), if_neg z]
             exact ⟨rfl, fun _ => rfl⟩
         refine hq _ _ hF2 ?_ (fun k1 k2 q1 q2 => ?_)
         · cases x with
           | inl e => exact hs2
           | inr k =>
             show zMs h2 n (zta n t k (zoh n t k))
             rw [(key k rfl).1]
             exact hs2
         · rw [(key k1 q1).1] at q2
           have e1 := hv k1 k2 q1 q2
           rw [e1, (key k1 q1).2 (by omega)])
  · intro c1
    refine s_58x ht hs (fun h2 v hF2 hs2 hb2 hv => ?_)
    refine And.intro (by omega) ?_
    first
    | (exact hq _ _ hF2 hs2 (fun k1 k2 q1 q2 => by cases q1; rw [ez]; exact hv k2 q2))
    | (have key : ∀ k, x = .inr k → zta n t k (zoh n t k) = zta n t k (zvh n t k) ∧ (0 ≤ zvh n t k → zoh n t k = 100 + zvh n t k) := by
         intro k q
         subst q
         obtain ⟨h4, hk, hb⟩ := hs.2 k rfl
         have k8 := hk.2.2.1
         have n2 : ¬ k.2.2.1 = 2 := by omega
         unfold zoh
         rw [if_neg n2]
         by_cases z : zvh n t k < 0
         · rw [if_pos z]
           unfold zta
           rw [if_pos (by omega), if_pos z]
           exact ⟨rfl, fun q => by omega⟩
         · rw [if_neg z]
           unfold zta
           rw [if_neg (by omega), if_neg z]
           exact ⟨rfl, fun _ => rfl⟩
       refine hq _ _ hF2 ?_ (fun k1 k2 q1 q2 => ?_)
       · cases x with
         | inl e => exact hs2
         | inr k =>
           show zMs h2 n (zta n t k (zoh n t k))
           rw [(key k rfl).1]
           exact hs2
       · rw [(key k1 q1).1] at q2
         have e1 := hv k1 k2 q1 q2
         rw [e1, (key k1 q1).2 (by omega)])
set_option maxHeartbeats 4000000 in
set_option maxRecDepth 100000 in
/-- M.endsLine -/
theorem s_60x {h : zM} {n : Nat} {t : Nat → Int} (ht : zTq h n t) {x : (Int × Nat) ⊕ zTk} (hs : zMs h n x) {Q : zQ} (hq : ∀ h2, zF zRm h h2 → zMs h2 n (zbd x fun k => zsm1 n t k) → Q none h2) : zR 60 [.inr (.inr 81)] h Q := by
  have n320 := ht.2.1
  refine zx_met0 zk_60 (Or.inr ⟨_, _, rfl, rfl⟩) (Nat.le_of_ble_eq_true rfl) 1000 (fun hok hM => ?_)
  constructor
  · intro c1
    constructor
    · intro c2
      refine s_56x ht hs (fun h2 hF2 hs2 => ?_)
      refine hq _ hF2 ?_
      cases x with
      | inl e => exact hs2
      | inr k =>
        obtain ⟨h4, hk, hb⟩ := hs.2 k rfl
        have k8 := hk.2.2.1
        show zMs h2 n (zsm1 n t k)
        unfold zsm1 zta
        rw [if_pos (show k.2.2.1 = 3 by omega), if_neg (by omega)]
        exact hs2
    · intro c2
      obtain ⟨k, rfl⟩ : ∃ k, x = .inr k := by
        cases x with
        | inl e => have := hs.1 e rfl; omega
        | inr k => exact ⟨k, rfl⟩
      obtain ⟨h4, hk, hb⟩ := hs.2 k rfl
      have k8 := hk.2.2.1
      refine s_54k n320 h4 hk hb (by omega) (fun h2 hF2 hs2 e4 => ?_)
      refine s_56b e4 ?_
      refine hq _ hF2 ?_
      show zMs h2 n (zsm1 n t k)
      unfold zsm1 zta
      rw [if_neg (show ¬ k.2.2.1 = 3 by omega), if_pos (by omega)]
      exact hs2
  · intro c1
    refine s_56x ht hs (fun h2 hF2 hs2 => ?_)
    refine hq _ hF2 ?_
    cases x with
    | inl e => exact hs2
    | inr k =>
      obtain ⟨h4, hk, hb⟩ := hs.2 k rfl
      have k8 := hk.2.2.1
      show zMs h2 n (zsm1 n t k)
      unfold zsm1 zta
      rw [if_pos (show k.2.2.1 = 3 by omega), if_neg (by omega)]
      exact hs2
