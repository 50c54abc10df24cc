/-! The reader, pure; the class takes tokens -/
def zbd {α β : Type} (x : (Int × Nat) ⊕ α) (f : α → (Int × Nat) ⊕ β) : (Int × Nat) ⊕ β := match x with
  | .inl e => .inl e
  | .inr a => f a
theorem zbd_l {α β : Type} {e : Int × Nat} {f : α → (Int × Nat) ⊕ β} {x : (Int × Nat) ⊕ α} (h : x = .inl e) : zbd x f = .inl e := by
  rw [h]
  rfl
theorem zbd_r {α β : Type} {a : α} {f : α → (Int × Nat) ⊕ β} {x : (Int × Nat) ⊕ α} (h : x = .inr a) : zbd x f = f a := by
  rw [h]
  rfl
/-- a token is taken, if x was found at it -/
def zta (n : Nat) (t : Nat → Int) (k : zTk) (x : Int) : (Int × Nat) ⊕ zTk := if x < 0 then .inl (2, k.1) else ztk n t k.2.1
/-- a BLOCK's number -/
def zbn (n : Nat) (t : Nat → Int) (k : zTk) : (Int × Nat) ⊕ zTk := if k.2.2.1 = 2 ∧ 8 ≤ k.2.2.2 then .inl (3, k.1) else zta n t k (if k.2.2.1 = 2 then k.2.2.2 else -4)
def zsm1 (n : Nat) (t : Nat → Int) (k : zTk) : (Int × Nat) ⊕ zTk := zta n t k (if k.2.2.1 = 3 then 0 else -4)
def zwbb (n : Nat) (t : Nat → Int) (k : zTk) (l : List Int) : Bool := decide (k.2.2.1 = 1) && decide (k.2.1 = k.1 + l.length) && (List.range l.length).all (fun a => decide (zbt n t (k.1 + a) = l.getD a 0))
theorem zwbb_iff {n : Nat} {t : Nat → Int} {k : zTk} {l : List Int} : zwbb n t k l = true ↔ zwq n t k l := by
  unfold zwbb zwq
  simp only [Bool.and_eq_true, decide_eq_true_eq, List.all_eq_true, List.mem_range, and_assoc]
theorem zwbb_f {n : Nat} {t : Nat → Int} {k : zTk} {l : List Int} : zwbb n t k l = false ↔ ¬ zwq n t k l := by
  rw [← zwbb_iff]
  cases zwbb n t k l <;> simp
/-- the op at a token; -4: none -/
def zoq (n : Nat) (t : Nat → Int) (k : zTk) : Int := if zwbb n t k (zopn 0) = true then 0 else if zwbb n t k (zopn 1) = true then 1 else if zwbb n t k (zopn 2) = true then 2 else if zwbb n t k (zopn 3) = true then 3 else -4
def zst5v (a b c d e : Int) : Nat → Int := fun w => if w = 0 then a else if w = 1 then b else if w = 2 then c else if w = 3 then d else e
/-- behind set -/
def zset (n : Nat) (t : Nat → Int) (k : zTk) : (Int × Nat) ⊕ (zTk × (Nat → Int)) :=
  zbd (zta n t k (zvh n t k)) fun k2 => zbd (zta n t k2 (zoh n t k2)) fun k3 =>
    if k3.2.2.1 = 1 then zbd (zta n t k3 (zoq n t k3)) fun k4 => zbd (zta n t k4 (zoh n t k4)) fun k5 => .inr (k5, zst5v 0 (zvh n t k) (zoh n t k2) (zoq n t k3) (zoh n t k4))
    else .inr (k3, zst5v 0 (zvh n t k) (zoh n t k2) 0 0)
/-- behind say -/
def zsay (n : Nat) (t : Nat → Int) (k : zTk) : (Int × Nat) ⊕ (zTk × (Nat → Int)) := zbd (zta n t k (zoh n t k)) fun k2 => .inr (k2, zst5v 1 (-4) (zoh n t k) (-4) (-4))
def zSET : List Int := [115, 101, 116]
def zSAY : List Int := [115, 97, 121]
/-- a step, from its NAME to its ; -/
def zstep (n : Nat) (t : Nat → Int) (k : zTk) : (Int × Nat) ⊕ (zTk × (Nat → Int)) :=
  zbd (ztk n t k.2.1) fun k1 => zbd (if zwbb n t k zSET = true then zset n t k1 else zsay n t k1) fun r => zbd (zsm1 n t r.1) fun k2 => .inr (k2, r.2)
/-- steps, as long as there are; S from m on -/
def zsteps (n : Nat) (t : Nat → Int) : Nat → zTk → Nat → (Nat → Nat → Int) → (Int × Nat) ⊕ (zTk × Nat × (Nat → Nat → Int))
  | 0, k, m, S => .inr (k, m, S)
  | f + 1, k, m, S => if zwbb n t k zSET = true ∨ zwbb n t k zSAY = true then (if 24 ≤ m then .inl (5, k.1) else zbd (zstep n t k) fun r => zsteps n t f r.1 (m + 1) (fun i => if i = m then r.2 else S i)) else .inr (k, m, S)
/-- an end: 2 end, 3 one, 4 two, 5 by -/
def zendp (n : Nat) (t : Nat → Int) (k : zTk) : (Int × Nat) ⊕ (zTk × Int × Int × Int × Int) :=
  if zwbb n t k [115, 116, 111, 112] = true then zbd (ztk n t k.2.1) fun k1 => .inr (k1, 2, -4, -4, -4)
  else if zwbb n t k [103, 111, 116, 111] = true then zbd (ztk n t k.2.1) fun k1 => zbd (zbn n t k1) fun k2 => .inr (k2, 0, k1.2.2.2, -4, -4)
  else if zwbb n t k [105, 102] = true then zbd (ztk n t k.2.1) fun k1 => zbd (zta n t k1 (zvh n t k1)) fun k2 => zbd (zbn n t k2) fun k3 => zbd (zbn n t k3) fun k4 => .inr (k4, 1, k2.2.2.2, k3.2.2.2, zvh n t k1)
  else .inl (2, k.1)
/-- what has been read: blocks, their numbers, steps, their parts -/
abbrev zD : Type := Nat × (Nat → Nat → Int) × Nat × (Nat → Nat → Int)
def zst6v (a b c d e f : Int) : Nat → Int := fun w => if w = 0 then a else if w = 1 then b else if w = 2 then c else if w = 3 then d else if w = 4 then e else f
def zblock (n : Nat) (t : Nat → Int) (k : zTk) (D : zD) : (Int × Nat) ⊕ (zTk × zD) :=
  if zwbb n t k [98, 108, 111, 99, 107] = true then (if D.1 = 8 then .inl (5, k.1) else
    zbd (ztk n t k.2.1) fun k1 => zbd (zsm1 n t k1) fun k2 => zbd (zsteps n t 25 k2 D.2.2.1 D.2.2.2) fun r => zbd (zendp n t r.1) fun e => zbd (zsm1 n t e.1) fun k3 => .inr (k3, D.1 + 1, (fun p => if p = D.1 then zst6v (D.2.2.1 : Int) ((r.2.1 : Int) - (D.2.2.1 : Int)) e.2.1 e.2.2.1 e.2.2.2.1 e.2.2.2.2 else D.2.1 p), r.2.1, r.2.2))
  else .inl (2, k.1)
def zblocks (n : Nat) (t : Nat → Int) : Nat → zTk → zD → (Int × Nat) ⊕ (zTk × zD)
  | 0, k, D => .inr (k, D)
  | f + 1, k, D => if k.2.2.1 = 0 then .inr (k, D) else zbd (zblock n t k D) fun r => zblocks n t f r.1 r.2
def zwhole (D : zD) : Nat → Bool
  | 0 => true
  | p + 1 => zwhole D p && decide (D.2.1 p 3 < (D.1 : Int)) && decide (D.2.1 p 4 < (D.1 : Int))
def zD0 : zD := (0, fun _ _ => 0, 0, fun _ _ => 0)
/-- the whole text -/
def ztext (n : Nat) (t : Nat → Int) : (Int × Nat) ⊕ zD := zbd (ztk n t 0) fun k => zbd (zblocks n t 9 k zD0) fun r => if zwhole r.2 r.2.1 = true then .inr r.2 else .inl (6, n)
theorem zta_b {n : Nat} {t : Nat → Int} (hb : ∀ i : Nat, i < n → 0 ≤ t i ∧ t i ≤ 127) {k : zTk} (hk : zTb n k) {x : Int} {k2 : zTk} (h : zta n t k x = .inr k2) : zTb n k2 := by
  unfold zta at h
  split at h
  · cases h
  · exact ztk_b hb hk.2.1 h
set_option maxHeartbeats 4000000 in
set_option maxRecDepth 100000 in
/-- Reader.take -/
theorem s_171 {h : zM} {n : Nat} {t : Nat → Int} (ht : zTp h n t) {k : zTk} (hk : zTc h k) (hb : zTb n k) {x : Int} {Q : zQ} (h1 : 0 ≤ x → ∀ k2, zta n t k x = .inr k2 → ∀ h2, zF zTf h h2 → h2 1 2 = h 1 2 → h2 1 3 = h 1 3 → zTc h2 k2 → Q (some (.inl x)) h2) (h0 : ∀ e, zta n t k x = .inl e → ∀ h2, zF zTf h h2 → h2 1 2 = e.1 → h2 1 3 = (e.2 : Int) → Q (some (.inl (-4))) h2) : zR 171 [.inr (.inr 1), .inl x] h Q := by
  obtain ⟨k5, k6, k4, k7⟩ := hk
  obtain ⟨b1, b2, b3, b4⟩ := hb
  unfold zta at h1 h0
  refine zx_met0 zk_171 (Or.inr ⟨_, _, rfl, rfl⟩) (Nat.le_of_ble_eq_true rfl) 1000 (fun hok hM => ?_)
  constructor
  · intro c1
    refine s_164 ?_
    first
    | (rw [if_neg (by omega)] at h1; exact h1 (by omega) k2 e2 _ hF g2 g3 hk2)
    | (rw [if_neg (by omega)] at h0; exact h0 e e2 _ hF g2 g3)
    | (rw [if_pos (by omega)] at h0; exact h0 _ rfl _ ((zF.rf.st rfl).st rfl) (by rw [zst_ne (by decide), zst_eq]) (by rw [zst_eq]; exact k5))
  · intro c1
    refine s_165 ht b2 k6 (fun k2 e2 h2 hF g2 g3 hk2 => ?_) (fun e e2 h2 hF g2 g3 => ?_)
    · refine And.intro (fun c => absurd c (by decide)) (fun _ => ?_)
      first
      | (rw [if_neg (by omega)] at h1; exact h1 (by omega) k2 e2 _ hF g2 g3 hk2)
      | (rw [if_neg (by omega)] at h0; exact h0 e e2 _ hF g2 g3)
      | (rw [if_pos (by omega)] at h0; exact h0 _ rfl _ ((zF.rf.st rfl).st rfl) (by rw [zst_ne (by decide), zst_eq]) (by rw [zst_eq]; exact k5))
    · refine And.intro (fun _ => ?_) (fun c => absurd (by decide) c)
      first
      | (rw [if_neg (by omega)] at h1; exact h1 (by omega) k2 e2 _ hF g2 g3 hk2)
      | (rw [if_neg (by omega)] at h0; exact h0 e e2 _ hF g2 g3)
      | (rw [if_pos (by omega)] at h0; exact h0 _ rfl _ ((zF.rf.st rfl).st rfl) (by rw [zst_ne (by decide), zst_eq]) (by rw [zst_eq]; exact k5))
set_option maxHeartbeats 4000000 in
set_option maxRecDepth 100000 in
/-- Reader.takesSemicolon -/
theorem s_173 {h : zM} {n : Nat} {t : Nat → Int} (ht : zTp h n t) {k : zTk} (hk : zTc h k) (hb : zTb n k) {Q : zQ} (h1 : ∀ k2, zsm1 n t k = .inr k2 → ∀ h2, zF zTf h h2 → h2 1 2 = h 1 2 → h2 1 3 = h 1 3 → zTc h2 k2 → Q (some (.inl 1)) h2) (h0 : ∀ e, zsm1 n t k = .inl e → ∀ h2, zF zTf h h2 → h2 1 2 = e.1 → h2 1 3 = (e.2 : Int) → Q (some (.inl 0)) h2) : zR 173 [.inr (.inr 1)] h Q := by
  have k4 := hk.2.2.1
  unfold zsm1 at h1 h0
  refine zx_met0 zk_173 (Or.inr ⟨_, _, rfl, rfl⟩) (Nat.le_of_ble_eq_true rfl) 1000 (fun hok hM => ?_)
  constructor
  · intro c1
    refine s_171 ht hk hb (fun x0 k2 e2 h2 hF g2 g3 hk2 => ?_) (fun e e2 h2 hF g2 g3 => ?_)
    · constructor
      · intro c2
        refine And.intro (by first | exact Or.inl rfl | exact Or.inr rfl | omega) ?_
        first
        | (rw [if_pos (by omega)] at h1; exact h1 k2 e2 _ hF g2 g3 hk2)
        | (rw [if_pos (by omega)] at h0; exact h0 e e2 _ hF g2 g3)
        | (rw [if_neg (by omega)] at h0; exact h0 e e2 _ hF g2 g3)
        | (exfalso; omega)
      · intro c2
        refine And.intro (by first | exact Or.inl rfl | exact Or.inr rfl | omega) ?_
        first
        | (rw [if_pos (by omega)] at h1; exact h1 k2 e2 _ hF g2 g3 hk2)
        | (rw [if_pos (by omega)] at h0; exact h0 e e2 _ hF g2 g3)
        | (rw [if_neg (by omega)] at h0; exact h0 e e2 _ hF g2 g3)
        | (exfalso; omega)
    · refine And.intro (fun _ => ?_) (fun c => absurd (by decide) c)
      refine And.intro (by first | exact Or.inl rfl | exact Or.inr rfl | omega) ?_
      first
      | (rw [if_pos (by omega)] at h1; exact h1 k2 e2 _ hF g2 g3 hk2)
      | (rw [if_pos (by omega)] at h0; exact h0 e e2 _ hF g2 g3)
      | (rw [if_neg (by omega)] at h0; exact h0 e e2 _ hF g2 g3)
      | (exfalso; omega)
  · intro c1
    refine s_171 ht hk hb (fun x0 k2 e2 h2 hF g2 g3 hk2 => ?_) (fun e e2 h2 hF g2 g3 => ?_)
    · constructor
      · intro c3
        refine And.intro (by first | exact Or.inl rfl | exact Or.inr rfl | omega) ?_
        first
        | (rw [if_pos (by omega)] at h1; exact h1 k2 e2 _ hF g2 g3 hk2)
        | (rw [if_pos (by omega)] at h0; exact h0 e e2 _ hF g2 g3)
        | (rw [if_neg (by omega)] at h0; exact h0 e e2 _ hF g2 g3)
        | (exfalso; omega)
      · intro c3
        refine And.intro (by first | exact Or.inl rfl | exact Or.inr rfl | omega) ?_
        first
        | (rw [if_pos (by omega)] at h1; exact h1 k2 e2 _ hF g2 g3 hk2)
        | (rw [if_pos (by omega)] at h0; exact h0 e e2 _ hF g2 g3)
        | (rw [if_neg (by omega)] at h0; exact h0 e e2 _ hF g2 g3)
        | (exfalso; omega)
    · refine And.intro (fun _ => ?_) (fun c => absurd (by decide) c)
      refine And.intro (by first | exact Or.inl rfl | exact Or.inr rfl | omega) ?_
      first
      | (rw [if_pos (by omega)] at h1; exact h1 k2 e2 _ hF g2 g3 hk2)
      | (rw [if_pos (by omega)] at h0; exact h0 e e2 _ hF g2 g3)
      | (rw [if_neg (by omega)] at h0; exact h0 e e2 _ hF g2 g3)
      | (exfalso; omega)
set_option maxHeartbeats 4000000 in
set_option maxRecDepth 100000 in
/-- Reader.takeBlockNumber -/
theorem s_172 {h : zM} {n : Nat} {t : Nat → Int} (ht : zTp h n t) {k : zTk} (hk : zTc h k) (hb : zTb n k) {Q : zQ} (h1 : k.2.2.1 = 2 → k.2.2.2 < 8 → ∀ k2, zbn n t k = .inr k2 → ∀ h2, zF zTf h h2 → h2 1 2 = h 1 2 → h2 1 3 = h 1 3 → zTc h2 k2 → Q (some (.inl k.2.2.2)) h2) (h0 : ∀ e, zbn n t k = .inl e → ∀ h2, zF zTf h h2 → h2 1 2 = e.1 → h2 1 3 = (e.2 : Int) → Q (some (.inl (-4))) h2) : zR 172 [.inr (.inr 1)] h Q := by
  have k5 := hk.1
  have k6 := hk.2.1
  have k4 := hk.2.2.1
  have k7 := hk.2.2.2
  have b2 := hb.2.1
  have b4 := hb.2.2.2
  unfold zbn at h1 h0
  refine zx_met0 zk_172 (Or.inr ⟨_, _, rfl, rfl⟩) (Nat.le_of_ble_eq_true rfl) 1000 (fun hok hM => ?_)
  constructor
  · intro c1
    constructor
    · intro c2
      refine s_165 ht b2 k6 (fun k2 e2 h2 hF g2 g3 hk2 => ?_) (fun e e2 h2 hF g2 g3 => ?_)
      · refine And.intro (fun c => absurd c (by decide)) (fun _ => ?_)
        first
        | (exfalso; omega)
        | (rw [if_pos (by have := k7 (by omega); omega)] at h0; exact h0 _ rfl _ ((zF.rf.st rfl).st rfl) (by rw [zst_ne (by decide), zst_eq]) (by rw [zst_eq]; exact k5))
        | (rw [if_neg (by omega), if_neg (by omega)] at h0
           unfold zta at h0
           rw [if_pos (by omega)] at h0
           exact h0 _ rfl _ ((zF.rf.st rfl).st rfl) (by rw [zst_ne (by decide), zst_eq]) (by rw [zst_eq]; exact k5))
        | (have e7 := k7 (by omega)
           have b7 := b4 (by omega)
           rw [if_neg (by omega), if_pos (by omega), ← e7] at h1
           unfold zta at h1
           rw [if_neg (by omega)] at h1
           exact h1 (by omega) (by omega) k2 e2 _ hF g2 g3 hk2)
        | (have e7 := k7 (by omega)
           have b7 := b4 (by omega)
           rw [if_neg (by omega), if_pos (by omega), ← e7] at h0
           unfold zta at h0
           rw [if_neg (by omega)] at h0
           exact h0 e e2 _ hF g2 g3)
      · refine And.intro (fun _ => ?_) (fun c => absurd (by decide) c)
        first
        | (exfalso; omega)
        | (rw [if_pos (by have := k7 (by omega); omega)] at h0; exact h0 _ rfl _ ((zF.rf.st rfl).st rfl) (by rw [zst_ne (by decide), zst_eq]) (by rw [zst_eq]; exact k5))
        | (rw [if_neg (by omega), if_neg (by omega)] at h0
           unfold zta at h0
           rw [if_pos (by omega)] at h0
           exact h0 _ rfl _ ((zF.rf.st rfl).st rfl) (by rw [zst_ne (by decide), zst_eq]) (by rw [zst_eq]; exact k5))
        | (have e7 := k7 (by omega)
           have b7 := b4 (by omega)
           rw [if_neg (by omega), if_pos (by omega), ← e7] at h1
           unfold zta at h1
           rw [if_neg (by omega)] at h1
           exact h1 (by omega) (by omega) k2 e2 _ hF g2 g3 hk2)
        | (have e7 := k7 (by omega)
           have b7 := b4 (by omega)
           rw [if_neg (by omega), if_pos (by omega), ← e7] at h0
           unfold zta at h0
           rw [if_neg (by omega)] at h0
           exact h0 e e2 _ hF g2 g3)
    · intro c2
      constructor
      · intro c3
        refine s_164 ?_
        first
        | (exfalso; omega)
        | (rw [if_pos (by have := k7 (by omega); omega)] at h0; exact h0 _ rfl _ ((zF.rf.st rfl).st rfl) (by rw [zst_ne (by decide), zst_eq]) (by rw [zst_eq]; exact k5))
        | (rw [if_neg (by omega), if_neg (by omega)] at h0
           unfold zta at h0
           rw [if_pos (by omega)] at h0
           exact h0 _ rfl _ ((zF.rf.st rfl).st rfl) (by rw [zst_ne (by decide), zst_eq]) (by rw [zst_eq]; exact k5))
        | (have e7 := k7 (by omega)
           have b7 := b4 (by omega)
           rw [if_neg (by omega), if_pos (by omega), ← e7] at h1
           unfold zta at h1
           rw [if_neg (by omega)] at h1
           exact h1 (by omega) (by omega) k2 e2 _ hF g2 g3 hk2)
        | (have e7 := k7 (by omega)
           have b7 := b4 (by omega)
           rw [if_neg (by omega), if_pos (by omega), ← e7] at h0
           unfold zta at h0
           rw [if_neg (by omega)] at h0
           exact h0 e e2 _ hF g2 g3)
      · intro c3
        refine s_164 ?_
        first
        | (exfalso; omega)
        | (rw [if_pos (by have := k7 (by omega); omega)] at h0; exact h0 _ rfl _ ((zF.rf.st rfl).st rfl) (by rw [zst_ne (by decide), zst_eq]) (by rw [zst_eq]; exact k5))
        | (rw [if_neg (by omega), if_neg (by omega)] at h0
           unfold zta at h0
           rw [if_pos (by omega)] at h0
           exact h0 _ rfl _ ((zF.rf.st rfl).st rfl) (by rw [zst_ne (by decide), zst_eq]) (by rw [zst_eq]; exact k5))
        | (have e7 := k7 (by omega)
           have b7 := b4 (by omega)
           rw [if_neg (by omega), if_pos (by omega), ← e7] at h1
           unfold zta at h1
           rw [if_neg (by omega)] at h1
           exact h1 (by omega) (by omega) k2 e2 _ hF g2 g3 hk2)
        | (have e7 := k7 (by omega)
           have b7 := b4 (by omega)
           rw [if_neg (by omega), if_pos (by omega), ← e7] at h0
           unfold zta at h0
           rw [if_neg (by omega)] at h0
           exact h0 e e2 _ hF g2 g3)
  · intro c1
    constructor
    · intro c4
      refine s_164 ?_
      first
      | (exfalso; omega)
      | (rw [if_pos (by have := k7 (by omega); omega)] at h0; exact h0 _ rfl _ ((zF.rf.st rfl).st rfl) (by rw [zst_ne (by decide), zst_eq]) (by rw [zst_eq]; exact k5))
      | (rw [if_neg (by omega), if_neg (by omega)] at h0
         unfold zta at h0
         rw [if_pos (by omega)] at h0
         exact h0 _ rfl _ ((zF.rf.st rfl).st rfl) (by rw [zst_ne (by decide), zst_eq]) (by rw [zst_eq]; exact k5))
      | (have e7 := k7 (by omega)
         have b7 := b4 (by omega)
         rw [if_neg (by omega), if_pos (by omega), ← e7] at h1
         unfold zta at h1
         rw [if_neg (by omega)] at h1
         exact h1 (by omega) (by omega) k2 e2 _ hF g2 g3 hk2)
      | (have e7 := k7 (by omega)
         have b7 := b4 (by omega)
         rw [if_neg (by omega), if_pos (by omega), ← e7] at h0
         unfold zta at h0
         rw [if_neg (by omega)] at h0
         exact h0 e e2 _ hF g2 g3)
    · intro c4
      refine s_164 ?_
      first
      | (exfalso; omega)
      | (rw [if_pos (by have := k7 (by omega); omega)] at h0; exact h0 _ rfl _ ((zF.rf.st rfl).st rfl) (by rw [zst_ne (by decide), zst_eq]) (by rw [zst_eq]; exact k5))
      | (rw [if_neg (by omega), if_neg (by omega)] at h0
         unfold zta at h0
         rw [if_pos (by omega)] at h0
         exact h0 _ rfl _ ((zF.rf.st rfl).st rfl) (by rw [zst_ne (by decide), zst_eq]) (by rw [zst_eq]; exact k5))
      | (have e7 := k7 (by omega)
         have b7 := b4 (by omega)
         rw [if_neg (by omega), if_pos (by omega), ← e7] at h1
         unfold zta at h1
         rw [if_neg (by omega)] at h1
         exact h1 (by omega) (by omega) k2 e2 _ hF g2 g3 hk2)
      | (have e7 := k7 (by omega)
         have b7 := b4 (by omega)
         rw [if_neg (by omega), if_pos (by omega), ← e7] at h0
         unfold zta at h0
         rw [if_neg (by omega)] at h0
         exact h0 e e2 _ hF g2 g3)
theorem s_48w {o : Int} (ho : 0 ≤ o ∧ o < 4) {h : zM} {Q : zQ} (hq : ∀ i, i < 13 → zwd i = zopn o → Q (some (.inr (.inr (1000 + i)))) h) : zR 48 [.inl o] h Q := s_48e hq
theorem zoq_b {n : Nat} {t : Nat → Int} {k : zTk} : zoq n t k = -4 ∨ 0 ≤ zoq n t k ∧ zoq n t k < 4 := by
  unfold zoq
  repeat' split
  all_goals omega
set_option maxHeartbeats 4000000 in
set_option maxRecDepth 100000 in
/-- Reader.opHere -/
theorem s_170 {h : zM} {n : Nat} {t : Nat → Int} (ht : zTp h n t) {k : zTk} (hk : zTc h k) (hb : zTb n k) {Q : zQ} (hq : Q (some (.inl (zoq n t k))) h) : zR 170 [.inr (.inr 1)] h Q := by
  refine zx_met zk_170 (Or.inr ⟨_, _, rfl, rfl⟩) (Nat.le_of_ble_eq_true rfl) (fun _ => false) 1000 (fun m j L S h2 => j = 2 ∧ S = [] ∧ h2 = h ∧ ∃ o7 : Nat, L = [some (.inr (.inr 1)), some (.inl (o7 : Int))] ∧ o7 ≤ 4 ∧ m = 4 - o7 ∧ ∀ a : Nat, a < o7 → zwbb n t k (zopn (a : Int)) = false) (fun hok hM => ?_) (fun hok hM => ?_)
  · exact ⟨_, rfl, rfl, rfl, 0, rfl, by omega, rfl, fun a ha => by omega⟩
  · rintro m j L S h2 hM2 ⟨rfl, rfl, rfl, o7, rfl, ho, hm, hno⟩
    constructor
    · intro c1
      refine s_48w (by omega) (fun i hi hwd => ?_)
      refine s_167 ht hk hb hi (fun z1 => ?_) (fun z1 => ?_)
      all_goals rw [hwd] at z1
      · refine And.intro (fun c => absurd c (by decide)) (fun _ => ?_)
        unfold zoq at hq
        have y0 : 0 < o7 → zwbb n t k (zopn 0) = false := fun q => hno 0 q
        have y1 : 1 < o7 → zwbb n t k (zopn 1) = false := fun q => hno 1 q
        have y2 : 2 < o7 → zwbb n t k (zopn 2) = false := fun q => hno 2 q
        have y3 : 3 < o7 → zwbb n t k (zopn 3) = false := fun q => hno 3 q
        first
        | (have o4 : o7 = 4 := by omega
           rw [if_neg (by rw [y0 (by omega)]; decide), if_neg (by rw [y1 (by omega)]; decide), if_neg (by rw [y2 (by omega)]; decide), if_neg (by rw [y3 (by omega)]; decide)] at hq
           exact hq)
        | (have z2 := zwbb_iff.mpr z1
           rcases (show o7 = 0 ∨ o7 = 1 ∨ o7 = 2 ∨ o7 = 3 by omega) with rfl | rfl | rfl | rfl
           · have z2 : zwbb n t k (zopn 0) = true := z2
             rw [if_pos z2] at hq; exact hq
           · have z2 : zwbb n t k (zopn 1) = true := z2
             rw [if_neg (by rw [y0 (by omega)]; decide), if_pos z2] at hq; exact hq
           · have z2 : zwbb n t k (zopn 2) = true := z2
             rw [if_neg (by rw [y0 (by omega)]; decide), if_neg (by rw [y1 (by omega)]; decide), if_pos z2] at hq; exact hq
           · have z2 : zwbb n t k (zopn 3) = true := z2
             rw [if_neg (by rw [y0 (by omega)]; decide), if_neg (by rw [y1 (by omega)]; decide), if_neg (by rw [y2 (by omega)]; decide), if_pos z2] at hq; exact hq)
      · refine And.intro (fun _ => ?_) (fun c => absurd (by decide) c)
        refine And.intro (by omega) ?_
        refine ⟨4 - (o7 + 1), by omega, rfl, rfl, rfl, o7 + 1, rfl, by omega, rfl, fun a ha => ?_⟩
        by_cases e : a = o7
        · rw [e]; exact zwbb_f.mpr z1
        · exact hno a (by omega)
    · intro c1
      unfold zoq at hq
      have y0 : 0 < o7 → zwbb n t k (zopn 0) = false := fun q => hno 0 q
      have y1 : 1 < o7 → zwbb n t k (zopn 1) = false := fun q => hno 1 q
      have y2 : 2 < o7 → zwbb n t k (zopn 2) = false := fun q => hno 2 q
      have y3 : 3 < o7 → zwbb n t k (zopn 3) = false := fun q => hno 3 q
      first
      | (have o4 : o7 = 4 := by omega
         rw [if_neg (by rw [y0 (by omega)]; decide), if_neg (by rw [y1 (by omega)]; decide), if_neg (by rw [y2 (by omega)]; decide), if_neg (by rw [y3 (by omega)]; decide)] at hq
         exact hq)
      | (have z2 := zwbb_iff.mpr z1
         rcases (show o7 = 0 ∨ o7 = 1 ∨ o7 = 2 ∨ o7 = 3 by omega) with rfl | rfl | rfl | rfl
         · have z2 : zwbb n t k (zopn 0) = true := z2
           rw [if_pos z2] at hq; exact hq
         · have z2 : zwbb n t k (zopn 1) = true := z2
           rw [if_neg (by rw [y0 (by omega)]; decide), if_pos z2] at hq; exact hq
         · have z2 : zwbb n t k (zopn 2) = true := z2
           rw [if_neg (by rw [y0 (by omega)]; decide), if_neg (by rw [y1 (by omega)]; decide), if_pos z2] at hq; exact hq
         · have z2 : zwbb n t k (zopn 3) = true := z2
           rw [if_neg (by rw [y0 (by omega)]; decide), if_neg (by rw [y1 (by omega)]; decide), if_neg (by rw [y2 (by omega)]; decide), if_pos z2] at hq; exact hq)
