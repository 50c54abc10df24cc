/-! CONTRACTS: the class's small ones -/
theorem zQe {Q : zQ} {h : zM} {x y : Int} (e : y = x) (hq : Q (some (.inl x)) h) : Q (some (.inl y)) h := by rw [e]; exact hq
def zres (op x y : Int) : Int := if op = 0 then (if x + y < 99 then x + y else 99) else if op = 1 then (if 0 < x - y then x - y else 0) else if op = 2 then (if x = y then 1 else 0) else (if y < x then 1 else 0)
theorem zres_rng (op : Int) {x y : Int} (hx : 0 ≤ x ∧ x ≤ 99) (hy : 0 ≤ y ∧ y ≤ 99) : 0 ≤ zres op x y ∧ zres op x y ≤ 99 := by
  unfold zres
  (repeat' split) <;> omega
/-- the places of webs -/
def zWb (b : Nat) : Prop := b = 4 ∨ b = 12 ∨ b = 20 ∨ b = 28 ∨ b = 36
def zWn (b : Nat) : Int := if b = 36 then 40 else 8
def zWs (b : Nat) : Int := if b = 36 then 960 else 24
/-- a web's two counts -/
def zWk (h : zM) (b : Nat) : Prop := (0 ≤ h b 7 ∧ h b 7 ≤ zWn b) ∧ 0 ≤ h b 8 ∧ h b 8 ≤ zWs b
set_option maxHeartbeats 4000000 in
set_option maxRecDepth 100000 in
/-- C.isVariable -/
theorem s_38 {v : Int} {h : zM} {Q : zQ}  (h1 : 0 ≤ v ∧ v < 6 → Q (some (.inl 1)) h) (h0 : ¬ (0 ≤ v ∧ v < 6) → Q (some (.inl 0)) h) : zR 38 [.inl v] h Q := by
  refine zx_met0 zk_38 (Or.inl rfl) (Nat.le_of_ble_eq_true rfl) 1000 (fun hok hM => ?_)
  constructor
  · intro c1
    refine And.intro (by first | exact Or.inl rfl | exact Or.inr rfl | omega) ?_
    first | exact h1 (by omega) | exact h0 (by omega)
  · intro c1
    constructor
    · intro c2
      refine And.intro (by first | exact Or.inl rfl | exact Or.inr rfl | omega) ?_
      first | exact h1 (by omega) | exact h0 (by omega)
    · intro c2
      refine And.intro (by first | exact Or.inl rfl | exact Or.inr rfl | omega) ?_
      first | exact h1 (by omega) | exact h0 (by omega)
set_option maxHeartbeats 4000000 in
set_option maxRecDepth 100000 in
/-- C.isSheet -/
theorem s_40 {v : Int} {h : zM} {Q : zQ}  (h1 : 0 ≤ v ∧ v < 4 → Q (some (.inl 1)) h) (h0 : ¬ (0 ≤ v ∧ v < 4) → Q (some (.inl 0)) h) : zR 40 [.inl v] h Q := by
  refine zx_met0 zk_40 (Or.inl rfl) (Nat.le_of_ble_eq_true rfl) 1000 (fun hok hM => ?_)
  constructor
  · intro c1
    refine And.intro (by first | exact Or.inl rfl | exact Or.inr rfl | omega) ?_
    first | exact h1 (by omega) | exact h0 (by omega)
  · intro c1
    constructor
    · intro c2
      refine And.intro (by first | exact Or.inl rfl | exact Or.inr rfl | omega) ?_
      first | exact h1 (by omega) | exact h0 (by omega)
    · intro c2
      refine And.intro (by first | exact Or.inl rfl | exact Or.inr rfl | omega) ?_
      first | exact h1 (by omega) | exact h0 (by omega)
set_option maxHeartbeats 4000000 in
set_option maxRecDepth 100000 in
/-- C.isLane -/
theorem s_41 {v : Int} {h : zM} {Q : zQ}  (h1 : 0 ≤ v ∧ v < 3 → Q (some (.inl 1)) h) (h0 : ¬ (0 ≤ v ∧ v < 3) → Q (some (.inl 0)) h) : zR 41 [.inl v] h Q := by
  refine zx_met0 zk_41 (Or.inl rfl) (Nat.le_of_ble_eq_true rfl) 1000 (fun hok hM => ?_)
  constructor
  · intro c1
    refine And.intro (by first | exact Or.inl rfl | exact Or.inr rfl | omega) ?_
    first | exact h1 (by omega) | exact h0 (by omega)
  · intro c1
    constructor
    · intro c2
      refine And.intro (by first | exact Or.inl rfl | exact Or.inr rfl | omega) ?_
      first | exact h1 (by omega) | exact h0 (by omega)
    · intro c2
      refine And.intro (by first | exact Or.inl rfl | exact Or.inr rfl | omega) ?_
      first | exact h1 (by omega) | exact h0 (by omega)
set_option maxHeartbeats 4000000 in
set_option maxRecDepth 100000 in
/-- C.canBegin -/
theorem s_39 {v x : Int} {h : zM} {Q : zQ}  (h1 : (0 ≤ v ∧ v < 6) ∧ 0 ≤ x ∧ x ≤ 99 → Q (some (.inl 1)) h) (h0 : ¬ ((0 ≤ v ∧ v < 6) ∧ 0 ≤ x ∧ x ≤ 99) → Q (some (.inl 0)) h) : zR 39 [.inl v, .inl x] h Q := by
  refine zx_met0 zk_39 (Or.inl rfl) (Nat.le_of_ble_eq_true rfl) 1000 (fun hok hM => ?_)
  refine s_38 (fun cv => ?_) (fun cv => ?_)
  · refine And.intro (fun c => absurd c (by decide)) (fun _ => ?_)
    constructor
    · intro c1
      refine And.intro (by first | exact Or.inl rfl | exact Or.inr rfl | omega) ?_
      first | exact h1 (by omega) | exact h0 (by omega)
    · intro c1
      constructor
      · intro c2
        refine And.intro (by first | exact Or.inl rfl | exact Or.inr rfl | omega) ?_
        first | exact h1 (by omega) | exact h0 (by omega)
      · intro c2
        refine And.intro (by first | exact Or.inl rfl | exact Or.inr rfl | omega) ?_
        first | exact h1 (by omega) | exact h0 (by omega)
  · refine And.intro (fun _ => ?_) (fun c => absurd (by decide) c)
    refine And.intro (by first | exact Or.inl rfl | exact Or.inr rfl | omega) ?_
    first | exact h1 (by omega) | exact h0 (by omega)
set_option maxHeartbeats 4000000 in
set_option maxRecDepth 100000 in
/-- C.allBits -/
theorem s_42 {h : zM} {Q : zQ} (hq : Q (some (.inl 63)) h) : zR 42 [] h Q := by
  refine zx_met0 zk_42 (Or.inl rfl) (Nat.le_of_ble_eq_true rfl) 1000 (fun hok hM => ?_)
  exact hq
set_option maxHeartbeats 4000000 in
set_option maxRecDepth 100000 in
/-- C.hasBit -/
theorem s_43 {u v : Int} {h : zM} {Q : zQ} (h1 : ¬ zx_and (zx_shr u v) 1 = 0 → Q (some (.inl 1)) h) (h0 : zx_and (zx_shr u v) 1 = 0 → Q (some (.inl 0)) h) : zR 43 [.inl u, .inl v] h Q := by
  refine zx_met0 zk_43 (Or.inl rfl) (Nat.le_of_ble_eq_true rfl) 1000 (fun hok hM => ?_)
  constructor
  · intro c1
    refine And.intro (by first | exact Or.inl rfl | exact Or.inr rfl | omega) ?_
    first | exact h1 c1 | exact h0 c1
  · intro c1
    refine And.intro (by first | exact Or.inl rfl | exact Or.inr rfl | omega) ?_
    first | exact h1 c1 | exact h0 c1
set_option maxHeartbeats 4000000 in
set_option maxRecDepth 100000 in
/-- C.variableOf -/
theorem s_44 {o : Int} {h : zM} {Q : zQ} (ho : -1000 ≤ o ∧ o ≤ 1000) (h1 : 100 ≤ o ∧ o < 106 → Q (some (.inl (o - 100))) h) (h0 : ¬ (100 ≤ o ∧ o < 106) → Q (some (.inl (-4))) h) : zR 44 [.inl o] h Q := by
  refine zx_met0 zk_44 (Or.inl rfl) (Nat.le_of_ble_eq_true rfl) 1000 (fun hok hM => ?_)
  refine And.intro (by omega) ?_
  constructor
  · intro c1
    first | exact h1 (by omega) | exact h0 (by omega)
  · intro c1
    constructor
    · intro c2
      first | exact h1 (by omega) | exact h0 (by omega)
    · intro c2
      first | exact h1 (by omega) | exact h0 (by omega)
set_option maxHeartbeats 4000000 in
set_option maxRecDepth 100000 in
/-- C.bitOf -/
theorem s_45 {o : Int} {h : zM} {Q : zQ} (ho : -1000 ≤ o ∧ o ≤ 1000) (h1 : o < 100 → Q (some (.inl 0)) h) (h0 : ¬ (o < 100) → Q (some (.inl (zx_shl 1 (o - 100)))) h) : zR 45 [.inl o] h Q := by
  refine zx_met0 zk_45 (Or.inl rfl) (Nat.le_of_ble_eq_true rfl) 1000 (fun hok hM => ?_)
  constructor
  · intro c1
    first | exact h1 (by omega) | exact h0 (by omega)
  · intro c1
    refine And.intro (by omega) ?_
    first | exact h1 (by omega) | exact h0 (by omega)
set_option maxHeartbeats 4000000 in
set_option maxRecDepth 100000 in
/-- C.valueOf -/
theorem s_46 {r : Nat} (hr : r = 65 ∨ r = 67 ∨ r = 69) {o : Int} {h : zM} {Q : zQ} (ho : -1000 ≤ o ∧ o ≤ 1000) (h1 : 100 ≤ o ∧ o < 106 → Q (some (.inl (h r (o - 100)))) h) (h0 : ¬ (100 ≤ o ∧ o < 106) → Q (some (.inl o)) h) : zR 46 [.inl o, .inr (.inr r)] h Q := by
  rcases hr with rfl | rfl | rfl
  all_goals
    refine zx_met0 zk_46 (Or.inl rfl) (Nat.le_of_ble_eq_true rfl) 1000 (fun hok hM => ?_)
    refine s_44 (by omega) (fun cv => ?_) (fun cv => ?_)
    · constructor
      · intro c1
        first | exact h1 (by assumption) | exact h0 (by assumption) | exact h0 (by omega) | (exfalso; first | omega | exact absurd cv.2 (fun z => c1 (show _ < (6 : Int) by omega)) | exact c2 (show o - 100 < (6 : Int) by omega))
      · intro c1
        constructor
        · intro c2
          refine And.intro (by first | exact ⟨by omega, by omega⟩ | (show 0 ≤ _ ∧ _ < (8 : Int); omega) | (show 0 ≤ _ ∧ _ < (6 : Int); omega) | (show 0 ≤ _ ∧ _ < (40 : Int); omega) | (show 0 ≤ _ ∧ _ < (120 : Int); omega) | (show 0 ≤ _ ∧ _ < (4800 : Int); omega)) ?_
          first | exact h1 (by assumption) | exact h0 (by assumption) | exact h0 (by omega) | (exfalso; first | omega | exact absurd cv.2 (fun z => c1 (show _ < (6 : Int) by omega)) | exact c2 (show o - 100 < (6 : Int) by omega))
        · intro c2
          first | exact h1 (by assumption) | exact h0 (by assumption) | exact h0 (by omega) | (exfalso; first | omega | exact absurd cv.2 (fun z => c1 (show _ < (6 : Int) by omega)) | exact c2 (show o - 100 < (6 : Int) by omega))
    · refine And.intro (fun _ => ?_) (fun c => absurd (by decide) c)
      first | exact h1 (by assumption) | exact h0 (by assumption) | exact h0 (by omega) | (exfalso; first | omega | exact absurd cv.2 (fun z => c1 (show _ < (6 : Int) by omega)) | exact c2 (show o - 100 < (6 : Int) by omega))
set_option maxHeartbeats 4000000 in
set_option maxRecDepth 100000 in
/-- C.result -/
theorem s_47 {op x y : Int} {h : zM} {Q : zQ} (hx : 0 ≤ x ∧ x ≤ 99) (hy : 0 ≤ y ∧ y ≤ 99) (hq : Q (some (.inl (zres op x y))) h) : zR 47 [.inl op, .inl x, .inl y] h Q := by
  refine zx_met0 zk_47 (Or.inl rfl) (Nat.le_of_ble_eq_true rfl) 1000 (fun hok hM => ?_)
  constructor
  · intro c1
    refine And.intro (by omega) ?_
    refine zQe ?_ hq
    unfold zres
    (repeat' split) <;> omega
  · intro c1
    constructor
    · intro c2
      refine And.intro (by omega) ?_
      refine zQe ?_ hq
      unfold zres
      (repeat' split) <;> omega
    · intro c2
      constructor
      · intro c3
        constructor
        · intro c4
          refine zQe ?_ hq
          unfold zres
          (repeat' split) <;> omega
        · intro c4
          refine zQe ?_ hq
          unfold zres
          (repeat' split) <;> omega
      · intro c3
        constructor
        · intro c5
          refine zQe ?_ hq
          unfold zres
          (repeat' split) <;> omega
        · intro c5
          refine zQe ?_ hq
          unfold zres
          (repeat' split) <;> omega
set_option maxHeartbeats 4000000 in
set_option maxRecDepth 100000 in
/-- C.numberOrZero -/
theorem s_34 {o : Int} {h : zM} {Q : zQ} (hq : Q (some (.inl (if 0 ≤ o ∧ o < 100 then o else 0))) h) : zR 34 [.inl o] h Q := by
  refine zx_met0 zk_34 (Or.inl rfl) (Nat.le_of_ble_eq_true rfl) 1000 (fun hok hM => ?_)
  constructor
  · intro c1
    refine zQe ?_ hq
    (repeat' split) <;> omega
  · intro c1
    constructor
    · intro c2
      refine zQe ?_ hq
      (repeat' split) <;> omega
    · intro c2
      refine zQe ?_ hq
      (repeat' split) <;> omega
set_option maxHeartbeats 4000000 in
set_option maxRecDepth 100000 in
/-- C.nameOf -/
theorem s_48 {op : Int} {h : zM} {Q : zQ} (hq : Q (some (.inr (.inr (if op = 0 then 1003 else if op = 1 then 1004 else if op = 2 then 1005 else 1006)))) h) : zR 48 [.inl op] h Q := by
  refine zx_met0 zk_48 (Or.inl rfl) (Nat.le_of_ble_eq_true rfl) 1000 (fun hok hM => ?_)
  constructor
  · intro c1
    first | (simp only [*, if_true, if_false] at hq; exact hq) | (rw [if_pos (by assumption)] at hq; exact hq) | (rw [if_neg (by assumption), if_pos (by assumption)] at hq; exact hq) | (rw [if_neg (by assumption), if_neg (by assumption), if_pos (by assumption)] at hq; exact hq) | (rw [if_neg (by assumption), if_neg (by assumption), if_neg (by assumption)] at hq; exact hq)
  · intro c1
    constructor
    · intro c2
      first | (simp only [*, if_true, if_false] at hq; exact hq) | (rw [if_pos (by assumption)] at hq; exact hq) | (rw [if_neg (by assumption), if_pos (by assumption)] at hq; exact hq) | (rw [if_neg (by assumption), if_neg (by assumption), if_pos (by assumption)] at hq; exact hq) | (rw [if_neg (by assumption), if_neg (by assumption), if_neg (by assumption)] at hq; exact hq)
    · intro c2
      constructor
      · intro c3
        first | (simp only [*, if_true, if_false] at hq; exact hq) | (rw [if_pos (by assumption)] at hq; exact hq) | (rw [if_neg (by assumption), if_pos (by assumption)] at hq; exact hq) | (rw [if_neg (by assumption), if_neg (by assumption), if_pos (by assumption)] at hq; exact hq) | (rw [if_neg (by assumption), if_neg (by assumption), if_neg (by assumption)] at hq; exact hq)
      · intro c3
        first | (simp only [*, if_true, if_false] at hq; exact hq) | (rw [if_pos (by assumption)] at hq; exact hq) | (rw [if_neg (by assumption), if_pos (by assumption)] at hq; exact hq) | (rw [if_neg (by assumption), if_neg (by assumption), if_pos (by assumption)] at hq; exact hq) | (rw [if_neg (by assumption), if_neg (by assumption), if_neg (by assumption)] at hq; exact hq)
set_option maxHeartbeats 4000000 in
set_option maxRecDepth 100000 in
/-- Web.isPlace -/
theorem s_196 {b : Nat} (hb : zWb b) {p : Int} {h : zM} {Q : zQ} (h1 : 0 ≤ p ∧ p < h b 7 → Q (some (.inl 1)) h) (h0 : ¬ (0 ≤ p ∧ p < h b 7) → Q (some (.inl 0)) h) : zR 196 [.inr (.inr b), .inl p] h Q := by
  rcases hb with rfl | rfl | rfl | rfl | rfl
  all_goals
    refine zx_met0 zk_196 (Or.inr ⟨_, _, rfl, rfl⟩) (Nat.le_of_ble_eq_true rfl) 1000 (fun hok hM => ?_)
    constructor
    · intro c1
      refine And.intro (by first | exact Or.inl rfl | exact Or.inr rfl | omega) ?_
      first | exact h1 (by omega) | exact h0 (by omega)
    · intro c1
      constructor
      · intro c2
        refine And.intro (by first | exact Or.inl rfl | exact Or.inr rfl | omega) ?_
        first | exact h1 (by omega) | exact h0 (by omega)
      · intro c2
        refine And.intro (by first | exact Or.inl rfl | exact Or.inr rfl | omega) ?_
        first | exact h1 (by omega) | exact h0 (by omega)
set_option maxHeartbeats 4000000 in
set_option maxRecDepth 100000 in
/-- Web.clear -/
theorem s_191 {b : Nat} (hb : zWb b) {h : zM} {Q : zQ} (hq : Q none (zx_st (zx_st h b 7 0) b 8 0)) : zR 191 [.inr (.inr b)] h Q := by
  rcases hb with rfl | rfl | rfl | rfl | rfl
  all_goals
    refine zx_met0 zk_191 (Or.inr ⟨_, _, rfl, rfl⟩) (Nat.le_of_ble_eq_true rfl) 1000 (fun hok hM => ?_)
    exact hq
set_option maxHeartbeats 4000000 in
set_option maxRecDepth 100000 in
/-- Web.startSteps -/
theorem s_193 {b : Nat} (hb : zWb b) {p : Int} {h : zM} {Q : zQ} (hk : h b 7 ≤ zWn b) (h1 : 0 ≤ p ∧ p < h b 7 → Q none (zx_st (zx_st h (b + 1) p (h b 8)) (b + 2) p 0)) (h0 : ¬ (0 ≤ p ∧ p < h b 7) → Q none h) : zR 193 [.inr (.inr b), .inl p] h Q := by
  rcases hb with rfl | rfl | rfl | rfl | rfl <;> simp [zWn] at hk
  all_goals
    refine zx_met0 zk_193 (Or.inr ⟨_, _, rfl, rfl⟩) (Nat.le_of_ble_eq_true rfl) 1000 (fun hok hM => ?_)
    refine s_196 (by first | assumption | (unfold zWb; omega)) (fun cv => ?_) (fun cv => ?_)
    · refine And.intro (fun c => absurd c (by decide)) (fun _ => ?_)
      refine And.intro (by first | exact ⟨by omega, by omega⟩ | (show 0 ≤ _ ∧ _ < (8 : Int); omega) | (show 0 ≤ _ ∧ _ < (6 : Int); omega) | (show 0 ≤ _ ∧ _ < (40 : Int); omega) | (show 0 ≤ _ ∧ _ < (120 : Int); omega) | (show 0 ≤ _ ∧ _ < (4800 : Int); omega)) ?_
      refine And.intro (by first | exact ⟨by omega, by omega⟩ | (show 0 ≤ _ ∧ _ < (8 : Int); omega) | (show 0 ≤ _ ∧ _ < (6 : Int); omega) | (show 0 ≤ _ ∧ _ < (40 : Int); omega) | (show 0 ≤ _ ∧ _ < (120 : Int); omega) | (show 0 ≤ _ ∧ _ < (4800 : Int); omega)) ?_
      first | exact h1 (by omega) | exact h0 (by omega)
    · refine And.intro (fun _ => ?_) (fun c => absurd (by decide) c)
      first | exact h1 (by omega) | exact h0 (by omega)
set_option maxHeartbeats 4000000 in
set_option maxRecDepth 100000 in
/-- Web.close -/
theorem s_195 {b : Nat} (hb : zWb b) {p e x y v : Int} {h : zM} {Q : zQ} (hk : h b 7 ≤ zWn b) (h1 : 0 ≤ p ∧ p < h b 7 → Q none (zx_st (zx_st (zx_st (zx_st h (b + 3) p e) (b + 4) p x) (b + 5) p y) (b + 6) p v)) (h0 : ¬ (0 ≤ p ∧ p < h b 7) → Q none h) : zR 195 [.inr (.inr b), .inl p, .inl e, .inl x, .inl y, .inl v] h Q := by
  rcases hb with rfl | rfl | rfl | rfl | rfl <;> simp [zWn] at hk
  all_goals
    refine zx_met0 zk_195 (Or.inr ⟨_, _, rfl, rfl⟩) (Nat.le_of_ble_eq_true rfl) 1000 (fun hok hM => ?_)
    refine s_196 (by first | assumption | (unfold zWb; omega)) (fun cv => ?_) (fun cv => ?_)
    · refine And.intro (fun c => absurd c (by decide)) (fun _ => ?_)
      refine And.intro (by first | exact ⟨by omega, by omega⟩ | (show 0 ≤ _ ∧ _ < (8 : Int); omega) | (show 0 ≤ _ ∧ _ < (6 : Int); omega) | (show 0 ≤ _ ∧ _ < (40 : Int); omega) | (show 0 ≤ _ ∧ _ < (120 : Int); omega) | (show 0 ≤ _ ∧ _ < (4800 : Int); omega)) ?_
      refine And.intro (by first | exact ⟨by omega, by omega⟩ | (show 0 ≤ _ ∧ _ < (8 : Int); omega) | (show 0 ≤ _ ∧ _ < (6 : Int); omega) | (show 0 ≤ _ ∧ _ < (40 : Int); omega) | (show 0 ≤ _ ∧ _ < (120 : Int); omega) | (show 0 ≤ _ ∧ _ < (4800 : Int); omega)) ?_
      refine And.intro (by first | exact ⟨by omega, by omega⟩ | (show 0 ≤ _ ∧ _ < (8 : Int); omega) | (show 0 ≤ _ ∧ _ < (6 : Int); omega) | (show 0 ≤ _ ∧ _ < (40 : Int); omega) | (show 0 ≤ _ ∧ _ < (120 : Int); omega) | (show 0 ≤ _ ∧ _ < (4800 : Int); omega)) ?_
      refine And.intro (by first | exact ⟨by omega, by omega⟩ | (show 0 ≤ _ ∧ _ < (8 : Int); omega) | (show 0 ≤ _ ∧ _ < (6 : Int); omega) | (show 0 ≤ _ ∧ _ < (40 : Int); omega) | (show 0 ≤ _ ∧ _ < (120 : Int); omega) | (show 0 ≤ _ ∧ _ < (4800 : Int); omega)) ?_
      first | exact h1 (by omega) | exact h0 (by omega)
    · refine And.intro (fun _ => ?_) (fun c => absurd (by decide) c)
      first | exact h1 (by omega) | exact h0 (by omega)
set_option maxHeartbeats 4000000 in
set_option maxRecDepth 100000 in
/-- Web.stepPart -/
theorem s_199 {b : Nat} (hb : zWb b) {i w : Int} {h : zM} {Q : zQ} (hk : zWk h b) (h1 : (0 ≤ i ∧ i < h b 8) ∧ 0 ≤ w ∧ w < 5 → Q (some (.inl (h (b + 7) (i * 5 + w)))) h) (h0 : ¬ ((0 ≤ i ∧ i < h b 8) ∧ 0 ≤ w ∧ w < 5) → Q (some (.inl (-1))) h) : zR 199 [.inr (.inr b), .inl i, .inl w] h Q := by
  obtain ⟨-, hk⟩ := hk
  rcases hb with rfl | rfl | rfl | rfl | rfl <;> simp [zWs] at hk
  all_goals
    refine zx_met0 zk_199 (Or.inr ⟨_, _, rfl, rfl⟩) (Nat.le_of_ble_eq_true rfl) 1000 (fun hok hM => ?_)
    constructor
    · intro c1
      first | exact h1 (by omega) | exact h0 (by omega)
    · intro c1
      constructor
      · intro c2
        constructor
        · intro c3
          first | exact h1 (by omega) | exact h0 (by omega)
        · intro c3
          constructor
          · intro c4
            refine And.intro (by omega) ?_
            refine And.intro (by omega) ?_
            refine And.intro (by first | exact ⟨by omega, by omega⟩ | (show 0 ≤ _ ∧ _ < (8 : Int); omega) | (show 0 ≤ _ ∧ _ < (6 : Int); omega) | (show 0 ≤ _ ∧ _ < (40 : Int); omega) | (show 0 ≤ _ ∧ _ < (120 : Int); omega) | (show 0 ≤ _ ∧ _ < (4800 : Int); omega)) ?_
            first | exact h1 (by omega) | exact h0 (by omega)
          · intro c4
            first | exact h1 (by omega) | exact h0 (by omega)
      · intro c2
        first | exact h1 (by omega) | exact h0 (by omega)
set_option maxHeartbeats 4000000 in
set_option maxRecDepth 100000 in
/-- Web.setStepPart -/
theorem s_200 {b : Nat} (hb : zWb b) {i w v : Int} {h : zM} {Q : zQ} (hk : zWk h b) (h1 : (0 ≤ i ∧ i < h b 8) ∧ 0 ≤ w ∧ w < 5 → Q none (zx_st h (b + 7) (i * 5 + w) v)) (h0 : ¬ ((0 ≤ i ∧ i < h b 8) ∧ 0 ≤ w ∧ w < 5) → Q none h) : zR 200 [.inr (.inr b), .inl i, .inl w, .inl v] h Q := by
  obtain ⟨-, hk⟩ := hk
  rcases hb with rfl | rfl | rfl | rfl | rfl <;> simp [zWs] at hk
  all_goals
    refine zx_met0 zk_200 (Or.inr ⟨_, _, rfl, rfl⟩) (Nat.le_of_ble_eq_true rfl) 1000 (fun hok hM => ?_)
    constructor
    · intro c1
      first | exact h1 (by omega) | exact h0 (by omega)
    · intro c1
      constructor
      · intro c2
        constructor
        · intro c3
          first | exact h1 (by omega) | exact h0 (by omega)
        · intro c3
          constructor
          · intro c4
            refine And.intro (by omega) ?_
            refine And.intro (by omega) ?_
            refine And.intro (by first | exact ⟨by omega, by omega⟩ | (show 0 ≤ _ ∧ _ < (8 : Int); omega) | (show 0 ≤ _ ∧ _ < (6 : Int); omega) | (show 0 ≤ _ ∧ _ < (40 : Int); omega) | (show 0 ≤ _ ∧ _ < (120 : Int); omega) | (show 0 ≤ _ ∧ _ < (4800 : Int); omega)) ?_
            first | exact h1 (by omega) | exact h0 (by omega)
          · intro c4
            first | exact h1 (by omega) | exact h0 (by omega)
      · intro c2
        first | exact h1 (by omega) | exact h0 (by omega)
set_option maxHeartbeats 4000000 in
set_option maxRecDepth 100000 in
/-- Web.placePart -/
theorem s_197 {b : Nat} (hb : zWb b) {p w : Int} {h : zM} {Q : zQ} (hk : h b 7 ≤ zWn b) (h1 : (0 ≤ p ∧ p < h b 7) ∧ 1 ≤ w ∧ w ≤ 5 → Q (some (.inl (h (b + 1 + w.toNat) p))) h) (h0 : ¬ ((0 ≤ p ∧ p < h b 7) ∧ 1 ≤ w ∧ w ≤ 5) → Q (some (.inl (-1))) h) : zR 197 [.inr (.inr b), .inl p, .inl w] h Q := by
  rcases hb with rfl | rfl | rfl | rfl | rfl <;> simp [zWn] at hk
  all_goals
    refine zx_met0 zk_197 (Or.inr ⟨_, _, rfl, rfl⟩) (Nat.le_of_ble_eq_true rfl) 1000 (fun hok hM => ?_)
    refine s_196 (by first | assumption | (unfold zWb; omega)) (fun cv => ?_) (fun cv => ?_)
    · refine And.intro (fun c => absurd c (by decide)) (fun _ => ?_)
      constructor
      · intro c1
        refine And.intro (by first | exact ⟨by omega, by omega⟩ | (show 0 ≤ _ ∧ _ < (8 : Int); omega) | (show 0 ≤ _ ∧ _ < (6 : Int); omega) | (show 0 ≤ _ ∧ _ < (40 : Int); omega) | (show 0 ≤ _ ∧ _ < (120 : Int); omega) | (show 0 ≤ _ ∧ _ < (4800 : Int); omega)) ?_
        first | exact h0 (by omega) | (subst w; exact h1 (by omega))
      · intro c1
        constructor
        · intro c2
          refine And.intro (by first | exact ⟨by omega, by omega⟩ | (show 0 ≤ _ ∧ _ < (8 : Int); omega) | (show 0 ≤ _ ∧ _ < (6 : Int); omega) | (show 0 ≤ _ ∧ _ < (40 : Int); omega) | (show 0 ≤ _ ∧ _ < (120 : Int); omega) | (show 0 ≤ _ ∧ _ < (4800 : Int); omega)) ?_
          first | exact h0 (by omega) | (subst w; exact h1 (by omega))
        · intro c2
          constructor
          · intro c3
            refine And.intro (by first | exact ⟨by omega, by omega⟩ | (show 0 ≤ _ ∧ _ < (8 : Int); omega) | (show 0 ≤ _ ∧ _ < (6 : Int); omega) | (show 0 ≤ _ ∧ _ < (40 : Int); omega) | (show 0 ≤ _ ∧ _ < (120 : Int); omega) | (show 0 ≤ _ ∧ _ < (4800 : Int); omega)) ?_
            first | exact h0 (by omega) | (subst w; exact h1 (by omega))
          · intro c3
            constructor
            · intro c4
              refine And.intro (by first | exact ⟨by omega, by omega⟩ | (show 0 ≤ _ ∧ _ < (8 : Int); omega) | (show 0 ≤ _ ∧ _ < (6 : Int); omega) | (show 0 ≤ _ ∧ _ < (40 : Int); omega) | (show 0 ≤ _ ∧ _ < (120 : Int); omega) | (show 0 ≤ _ ∧ _ < (4800 : Int); omega)) ?_
              first | exact h0 (by omega) | (subst w; exact h1 (by omega))
            · intro c4
              constructor
              · intro c5
                refine And.intro (by first | exact ⟨by omega, by omega⟩ | (show 0 ≤ _ ∧ _ < (8 : Int); omega) | (show 0 ≤ _ ∧ _ < (6 : Int); omega) | (show 0 ≤ _ ∧ _ < (40 : Int); omega) | (show 0 ≤ _ ∧ _ < (120 : Int); omega) | (show 0 ≤ _ ∧ _ < (4800 : Int); omega)) ?_
                first | exact h0 (by omega) | (subst w; exact h1 (by omega))
              · intro c5
                first | exact h0 (by omega) | (subst w; exact h1 (by omega))
    · refine And.intro (fun _ => ?_) (fun c => absurd (by decide) c)
      first | exact h0 (by omega) | (subst w; exact h1 (by omega))
set_option maxHeartbeats 4000000 in
set_option maxRecDepth 100000 in
/-- Web.setPlacePart -/
theorem s_198 {b : Nat} (hb : zWb b) {p w v : Int} {h : zM} {Q : zQ} (hk : h b 7 ≤ zWn b) (h1 : (0 ≤ p ∧ p < h b 7) ∧ 3 ≤ w ∧ w ≤ 5 → Q none (zx_st h (b + 1 + w.toNat) p v)) (h0 : ¬ ((0 ≤ p ∧ p < h b 7) ∧ 3 ≤ w ∧ w ≤ 5) → Q none h) : zR 198 [.inr (.inr b), .inl p, .inl w, .inl v] h Q := by
  rcases hb with rfl | rfl | rfl | rfl | rfl <;> simp [zWn] at hk
  all_goals
    refine zx_met0 zk_198 (Or.inr ⟨_, _, rfl, rfl⟩) (Nat.le_of_ble_eq_true rfl) 1000 (fun hok hM => ?_)
    refine s_196 (by first | assumption | (unfold zWb; omega)) (fun cv => ?_) (fun cv => ?_)
    · refine And.intro (fun c => absurd c (by decide)) (fun _ => ?_)
      constructor
      · intro c1
        refine And.intro (by first | exact ⟨by omega, by omega⟩ | (show 0 ≤ _ ∧ _ < (8 : Int); omega) | (show 0 ≤ _ ∧ _ < (6 : Int); omega) | (show 0 ≤ _ ∧ _ < (40 : Int); omega) | (show 0 ≤ _ ∧ _ < (120 : Int); omega) | (show 0 ≤ _ ∧ _ < (4800 : Int); omega)) ?_
        first | exact h0 (by omega) | (subst w; exact h1 (by omega))
      · intro c1
        constructor
        · intro c2
          refine And.intro (by first | exact ⟨by omega, by omega⟩ | (show 0 ≤ _ ∧ _ < (8 : Int); omega) | (show 0 ≤ _ ∧ _ < (6 : Int); omega) | (show 0 ≤ _ ∧ _ < (40 : Int); omega) | (show 0 ≤ _ ∧ _ < (120 : Int); omega) | (show 0 ≤ _ ∧ _ < (4800 : Int); omega)) ?_
          first | exact h0 (by omega) | (subst w; exact h1 (by omega))
        · intro c2
          constructor
          · intro c3
            refine And.intro (by first | exact ⟨by omega, by omega⟩ | (show 0 ≤ _ ∧ _ < (8 : Int); omega) | (show 0 ≤ _ ∧ _ < (6 : Int); omega) | (show 0 ≤ _ ∧ _ < (40 : Int); omega) | (show 0 ≤ _ ∧ _ < (120 : Int); omega) | (show 0 ≤ _ ∧ _ < (4800 : Int); omega)) ?_
            first | exact h0 (by omega) | (subst w; exact h1 (by omega))
          · intro c3
            first | exact h0 (by omega) | (subst w; exact h1 (by omega))
    · refine And.intro (fun _ => ?_) (fun c => absurd (by decide) c)
      first | exact h0 (by omega) | (subst w; exact h1 (by omega))
