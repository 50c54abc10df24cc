/-! The reference: points are sought and met; what is left -/
def zEm (h : zM) (G : zG) : Prop := zPm h 0 G ∧ h 81 12 = (zUG G : Int) ∧ ∀ c : Nat, c < 8 → h 86 (c : Int) = (zAG G c : Int)
theorem zEm.fr {h h2 : zM} {G : zG} (he : zEm h G) (e1 : ∀ k, h2 82 k = h 82 k) (e2 : ∀ k, h2 86 k = h 86 k) (e3 : h2 81 12 = h 81 12) : zEm h2 G := ⟨he.1.fr e1, e3.trans he.2.1, fun c hc => (e2 _).trans (he.2.2 c hc)⟩
theorem s_74t {h : zM} {G : zG} (he : zEm h G) (hw : zWf G) {b : Nat} (hb : b < G.1) {v : Int} (hv : 0 ≤ v ∧ v < 6) {y : Int} (hy : y = ztd G (h 95) b v) {Q : zQ} (hq : Q (some (.inl y)) h) : zR 74 [.inr (.inr 81), .inl (b : Int), .inl v] h Q := by
  have h8 := hw.1
  have hu := zB_bit _ (zUG_b hw) v.toNat (by omega)
  have ha := zB_bit _ (zAG_b hw b) v.toNat (by omega)
  rw [Int.toNat_of_nonneg hv.1] at hu ha
  have e174 := he.1.n.2.2
  have e86 := he.2.2 b (by omega)
  have hws := hw.2.2.2.2.2
  have c1 : ¬ zbit (h 81 12) v ↔ Nat.testBit (zUG G) v.toNat = false := by
    unfold zbit
    rw [he.2.1, Classical.not_not]
    exact hu
  have c2 : (h 82 174 = 1 ∨ zbit (h 86 (b : Int)) v) ↔ (G.2.2.2.2.2 = 0 ∨ Nat.testBit (zAG G b) v.toNat = true) := by
    unfold zbit
    rw [e86, ha, e174]
    refine or_congr (by omega) ?_
    cases Nat.testBit (zAG G b) v.toNat <;> simp
  subst hy
  refine s_74 (by omega) hv (fun q1 q2 => ?_) (fun q => ?_)
  · rw [ztd, if_pos ⟨c1.mp q1, c2.mp q2⟩] at hq
    exact hq
  · rw [ztd, if_neg (fun z => q ⟨c1.mpr z.1, c2.mpr z.2⟩)] at hq
    exact hq
theorem s_78t {h : zM} {u : Nat} (hu : u < 64) (hd : h 81 12 = (u : Int)) {f : Int → Int} (hf : ∀ v, 0 ≤ v → v < 6 → h 95 v = f v) {x o : Int} (hx : x = o) (ho : -1000 ≤ o ∧ o < 106) {Q : zQ} (hq : Q (some (.inl (zlo u f o))) h) : zR 78 [.inr (.inr 81), .inl x] h Q := by
  subst hx
  have hc : (100 ≤ x ∧ ¬ zbit (h 81 12) (x - 100)) ↔ (100 ≤ x ∧ Nat.testBit u (x - 100).toNat = false) := by
    refine and_congr_right (fun h1 => ?_)
    have hz := zB_bit u hu (x - 100).toNat (by omega)
    rw [Int.toNat_of_nonneg (by omega)] at hz
    unfold zbit
    rw [hd, Classical.not_not]
    exact hz
  refine s_78 ho (fun q => ?_) (fun q => ?_)
  · rw [zlo, if_neg (fun z => q (hc.mpr z))] at hq
    exact hq
  · rw [zlo, if_pos (hc.mp q), ← hf _ (by omega) (by omega)] at hq
    exact hq
theorem s_76t {h : zM} {f : Int → Int} (hf : ∀ v, 0 ≤ v → v < 6 → h 95 v = f v) {x o : Int} (hx : x = o) (ho : 0 ≤ o ∧ o < 106) {Q : zQ} (hq : Q (some (.inl (zval f o))) h) : zR 76 [.inr (.inr 81), .inl x] h Q := by
  subst hx
  refine s_76 ho (fun q => ?_) (fun q => ?_)
  · rw [zval, if_pos q] at hq
    exact hq
  · rw [zval, if_neg q, ← hf _ (by omega) (by omega)] at hq
    exact hq
theorem s_77e {op op2 x y x2 y2 : Int} (e1 : op = op2) (e2 : x = x2) (e3 : y = y2) {h : zM} {Q : zQ} (hx : 0 ≤ x2 ∧ x2 ≤ 99) (hy : 0 ≤ y2 ∧ y2 ≤ 99) (hq : Q (some (.inl (zres op2 x2 y2))) h) : zR 77 [.inl op, .inl x, .inl y] h Q := by
  subst e1
  subst e2
  subst e3
  exact s_77 hx hy hq
/-- the reference's points are P; k of them are gone through -/
def zHm (h : zM) (P : zPS) (k : Nat) : Prop := h 81 15 = (P.1 : Int) ∧ (∀ j : Nat, j < P.1 → h 87 (j : Int) = (P.2.1 j : Int) ∧ ∀ v, 0 ≤ v → v < 6 → h 88 (6 * (j : Int) + v) = P.2.2.1 j v) ∧ ∀ j : Nat, j < k → h 93 (j : Int) = P.2.2.2.2.1 j 1 ∧ h 89 (j : Int) = P.2.2.2.2.1 j 2 ∧ h 90 (j : Int) = P.2.2.2.2.1 j 3 ∧ h 91 (j : Int) = P.2.2.2.2.1 j 4 ∧ h 92 (j : Int) = P.2.2.2.2.1 j 5 ∧ ∀ i w : Nat, (i : Int) < P.2.2.2.2.1 j 1 → w < 5 → h 94 (120 * (j : Int) + 5 * (i : Int) + (w : Int)) = P.2.2.2.2.2 j i w
set_option maxHeartbeats 4000000 in
set_option maxRecDepth 100000 in
/-- M.isPointOf -/
theorem s_73 {h : zM} {G : zG} (he : zEm h G) (hw : zWf G) {P : zPS} (h40 : P.1 ≤ 40) (hr : ∀ j : Nat, j < P.1 → h 87 (j : Int) = (P.2.1 j : Int) ∧ ∀ v, 0 ≤ v → v < 6 → h 88 (6 * (j : Int) + v) = P.2.2.1 j v) {b : Nat} (hb : b < G.1) {F : Int → Int} (hF0 : ∀ v, 0 ≤ v → v < 6 → F v = ztd G (h 95) b v) {k : Nat} (hk : k < P.1) {Q : zQ} (h1 : zlk P b F k = true → Q (some (.inl 1)) h) (h0 : zlk P b F k = false → Q (some (.inl 0)) h) : zR 73 [.inr (.inr 81), .inl (k : Int), .inl (b : Int)] h Q := by
  obtain ⟨e87, e88⟩ := hr k hk
  refine zx_met zk_73 (Or.inr ⟨_, _, rfl, rfl⟩) (Nat.le_of_ble_eq_true rfl) (fun _ => false) 1000 (fun m j L S h2 => j = 12 ∧ S = [] ∧ h2 = h ∧ ∃ (i7 : Nat) (a7 : Int), L = [some (.inr (.inr 81)), some (.inl (k : Int)), some (.inl (b : Int)), some (.inl a7), some (.inl (i7 : Int))] ∧ i7 ≤ 6 ∧ m = 6 - i7 ∧ (a7 = 1 ∧ P.2.1 k = b ∧ (∀ v, 0 ≤ v → v < (i7 : Int) → P.2.2.1 k v = F v) ∨ a7 = 0 ∧ zlk P b F k = false)) (fun hok hM => ?_) (fun hok hM => ?_)
  · refine And.intro (by first | (show 0 ≤ _ ∧ _ < (40 : Int); omega) | (show 0 ≤ _ ∧ _ < (240 : Int); omega) | (show 0 ≤ _ ∧ _ < (6 : Int); omega) | (show 0 ≤ _ ∧ _ < (708 : Int); omega) | (show 0 ≤ _ ∧ _ < (4800 : Int); omega) | (show 0 ≤ _ ∧ _ < (8 : Int); omega)) ?_
    constructor
    · intro c1
      refine ⟨6, rfl, rfl, rfl, 0, _, rfl, by omega, rfl, ?_⟩
      first
      | (left; exact ⟨rfl, by omega, fun v h0 h1 => by omega⟩)
      | (right
         refine ⟨rfl, ?_⟩
         cases ez : zlk P b F k
         · rfl
         · have := (zlk_iff.mp ez).1
           omega)
    · intro c1
      refine ⟨6, rfl, rfl, rfl, 0, _, rfl, by omega, rfl, ?_⟩
      first
      | (left; exact ⟨rfl, by omega, fun v h0 h1 => by omega⟩)
      | (right
         refine ⟨rfl, ?_⟩
         cases ez : zlk P b F k
         · rfl
         · have := (zlk_iff.mp ez).1
           omega)
  · rintro m j L S h2 hM2 ⟨rfl, rfl, rfl, i7, a7, rfl, hi, hm, ha⟩
    have ha01 : a7 = 1 ∨ a7 = 0 := ha.imp And.left And.left
    constructor
    · intro c2
      constructor
      · intro c3
        refine And.intro (by omega) ?_
        first
        | (have ha2 := ha.resolve_left (fun q => by have := q.1; omega)
           exact ⟨6 - (i7 + 1), by omega, rfl, rfl, rfl, i7 + 1, _, rfl, by omega, rfl, Or.inr ⟨rfl, ha2.2⟩⟩)
        | (have ha2 := ha.resolve_right (fun q => by have := q.1; omega)
           have q88 := e88 (i7 : Int) (by omega) (by omega)
           refine ⟨6 - (i7 + 1), by omega, rfl, rfl, rfl, i7 + 1, _, rfl, by omega, rfl, ?_⟩
           first
           | (left
              refine ⟨rfl, ha2.2.1, fun v h0 h1 => ?_⟩
              by_cases e : v = (i7 : Int)
              · rw [e]; omega
              · exact ha2.2.2 v h0 (by omega))
           | (right
              refine ⟨rfl, ?_⟩
              cases ez : zlk P b F k
              · rfl
              · have := (zlk_iff.mp ez).2 (i7 : Int) (by omega) (by omega)
                omega))
      · intro c3
        refine And.intro (by omega) ?_
        refine And.intro (by omega) ?_
        refine And.intro (by first | (show 0 ≤ _ ∧ _ < (40 : Int); omega) | (show 0 ≤ _ ∧ _ < (240 : Int); omega) | (show 0 ≤ _ ∧ _ < (6 : Int); omega) | (show 0 ≤ _ ∧ _ < (708 : Int); omega) | (show 0 ≤ _ ∧ _ < (4800 : Int); omega) | (show 0 ≤ _ ∧ _ < (8 : Int); omega)) ?_
        refine s_74t he hw hb (v := (i7 : Int)) (by omega) (y := F (i7 : Int)) (hF0 _ (by omega) (by omega)) ?_
        constructor
        · intro c4
          refine And.intro (by omega) ?_
          first
          | (have ha2 := ha.resolve_left (fun q => by have := q.1; omega)
             exact ⟨6 - (i7 + 1), by omega, rfl, rfl, rfl, i7 + 1, _, rfl, by omega, rfl, Or.inr ⟨rfl, ha2.2⟩⟩)
          | (have ha2 := ha.resolve_right (fun q => by have := q.1; omega)
             have q88 := e88 (i7 : Int) (by omega) (by omega)
             refine ⟨6 - (i7 + 1), by omega, rfl, rfl, rfl, i7 + 1, _, rfl, by omega, rfl, ?_⟩
             first
             | (left
                refine ⟨rfl, ha2.2.1, fun v h0 h1 => ?_⟩
                by_cases e : v = (i7 : Int)
                · rw [e]; omega
                · exact ha2.2.2 v h0 (by omega))
             | (right
                refine ⟨rfl, ?_⟩
                cases ez : zlk P b F k
                · rfl
                · have := (zlk_iff.mp ez).2 (i7 : Int) (by omega) (by omega)
                  omega))
        · intro c4
          refine And.intro (by omega) ?_
          first
          | (have ha2 := ha.resolve_left (fun q => by have := q.1; omega)
             exact ⟨6 - (i7 + 1), by omega, rfl, rfl, rfl, i7 + 1, _, rfl, by omega, rfl, Or.inr ⟨rfl, ha2.2⟩⟩)
          | (have ha2 := ha.resolve_right (fun q => by have := q.1; omega)
             have q88 := e88 (i7 : Int) (by omega) (by omega)
             refine ⟨6 - (i7 + 1), by omega, rfl, rfl, rfl, i7 + 1, _, rfl, by omega, rfl, ?_⟩
             first
             | (left
                refine ⟨rfl, ha2.2.1, fun v h0 h1 => ?_⟩
                by_cases e : v = (i7 : Int)
                · rw [e]; omega
                · exact ha2.2.2 v h0 (by omega))
             | (right
                refine ⟨rfl, ?_⟩
                cases ez : zlk P b F k
                · rfl
                · have := (zlk_iff.mp ez).2 (i7 : Int) (by omega) (by omega)
                  omega))
    · intro c2
      refine And.intro (by first | exact Or.inl rfl | exact Or.inr rfl | omega) ?_
      have i6 : i7 = 6 := by omega
      subst i6
      rcases ha with ⟨q1, q2, q3⟩ | ⟨q1, q2⟩
      · subst q1; exact h1 (zlk_iff.mpr ⟨q2, q3⟩)
      · subst q1; exact h0 q2
def zMy : Nat → Int → Bool := fun r j => Nat.beq r 87 || Nat.beq r 88 || (Nat.beq r 81 && (decide (j = 15) || decide (j = 16)))
theorem zMy_n {r : Nat} {j : Int} (h1 : 81 < r) (h2 : r ≠ 87) (h3 : r ≠ 88) : zMy r j = false := by
  unfold zMy
  rw [zbeq_ne h2, zbeq_ne h3, zbeq_ne (show r ≠ 81 by omega)]
  rfl
theorem zHm.Y {h h2 : zM} {P : zPS} {k : Nat} (hh : zHm h P k) (hF : zF zMy h h2) {P2 : zPS} (hA : P2.2.2.2.2 = P.2.2.2.2) (h15 : h2 81 15 = (P2.1 : Int)) (hp : ∀ j : Nat, j < P2.1 → h2 87 (j : Int) = (P2.2.1 j : Int) ∧ ∀ v, 0 ≤ v → v < 6 → h2 88 (6 * (j : Int) + v) = P2.2.2.1 j v) : zHm h2 P2 k := by
  refine ⟨h15, hp, fun j hj => ?_⟩
  obtain ⟨a, b, c, d, e, f⟩ := hh.2.2 j hj
  rw [hA]
  exact ⟨(hF _ _ rfl).trans a, (hF _ _ rfl).trans b, (hF _ _ rfl).trans c, (hF _ _ rfl).trans d, (hF _ _ rfl).trans e, fun i w hi hw => (hF _ _ rfl).trans (f i w hi hw)⟩
set_option maxHeartbeats 4000000 in
set_option maxRecDepth 100000 in
/-- M.pointOf -/
theorem s_75 {h : zM} {G : zG} (he : zEm h G) (hw : zWf G) {P : zPS} {k : Nat} (hh : zHm h P k) (h40 : P.1 ≤ 40) {b : Nat} (hb : b < G.1) {x : Int} (hx : x = (b : Int)) {F : Int → Int} (hF0 : ∀ v, 0 ≤ v → v < 6 → F v = ztd G (h 95) b v) (m : Int) {Q : zQ} (hq : ∀ h2 x, zF zMy h h2 → zHm h2 (zme P b F m).1 k → ((zme P b F m).2.2 = false → x = ((zme P b F m).2.1 : Int) ∧ h2 81 16 = h 81 16) → ((zme P b F m).2.2 = true → h2 81 16 = 1) → Q (some (.inl x)) h2) : zR 75 [.inr (.inr 81), .inl x] h Q := by
  subst hx
  have h15 := hh.1
  refine zx_met zk_75 (Or.inr ⟨_, _, rfl, rfl⟩) (Nat.le_of_ble_eq_true rfl) (fun _ => false) 1000 (fun m0 j L S h2 => (j = 2 ∧ S = [] ∧ h2 = h ∧ ∃ (k7 : Nat), L = [some (.inr (.inr 81)), some (.inl (b : Int)), some (.inl (k7 : Int))] ∧ k7 ≤ P.1 ∧ m0 = 100 + 40 - k7 ∧ (∀ j, j < k7 → zlk P b F j = false)) ∨
    (j = 32 ∧ S = [] ∧ ∃ (k7 : Nat), L = [some (.inr (.inr 81)), some (.inl (b : Int)), some (.inl (k7 : Int))] ∧ k7 ≤ 6 ∧ m0 = 6 - k7 ∧ zF zMy h h2 ∧ P.1 < 40 ∧ (∀ j, j < P.1 → zlk P b F j = false) ∧ h2 81 15 = (P.1 : Int) ∧ h2 81 16 = h 81 16 ∧ (∀ j : Nat, j < P.1 → h2 87 (j : Int) = (P.2.1 j : Int) ∧ ∀ v, 0 ≤ v → v < 6 → h2 88 (6 * (j : Int) + v) = P.2.2.1 j v) ∧ h2 87 (P.1 : Int) = (b : Int) ∧ ∀ v, 0 ≤ v → v < (k7 : Int) → h2 88 (6 * (P.1 : Int) + v) = F v)) (fun hok hM => ?_) (fun hok hM => ?_)
  · exact ⟨_, Or.inl ⟨rfl, rfl, rfl, 0, rfl, by omega, rfl, fun j hj => by omega⟩⟩
  · rintro n0 i0 L S h2 hM2 (hI | hI)
    · obtain ⟨rfl, rfl, rfl, k7, rfl, hk7, hm0, hno⟩ := hI
      constructor
      · intro c1
        refine s_73 he hw h40 hh.2.1 hb hF0 (k := k7) (by omega) (fun hit => ?_) (fun hit => ?_)
        · refine And.intro (fun c => absurd c (by decide)) (fun _ => ?_)
          first
          | (have hf := zfd_hit hno hit P.1 (by omega)
             have hz : zme P b F m = ((P.1, P.2.1, P.2.2.1, (fun j => if j = k7 ∧ P.2.2.2.1 j = -4 then m else P.2.2.2.1 j), P.2.2.2.2.1, P.2.2.2.2.2), k7, false) := by
               unfold zme
               rw [hf, if_pos (by omega)]
             rw [hz] at hq
             exact hq _ _ zF.rf ⟨hh.1, hh.2.1, hh.2.2⟩ (fun _ => ⟨rfl, rfl⟩) (fun q => by cases q))
          | (have kn : k7 = P.1 := by omega
             subst kn
             have hz : zme P b F m = (P, 0, true) := by
               unfold zme
               rw [zfd_no _ hno, if_neg (by omega), if_pos (by omega)]
             rw [hz] at hq
             exact hq _ _ (zF.rf.st rfl) ⟨hh.1, hh.2.1, hh.2.2⟩ (fun q => by cases q) (fun _ => zst_eq _ _ _ _))
          | (have k6 : k7 = 6 := by omega
             subst k6
             have hz : zme P b F m = ((P.1 + 1, (fun j => if j = P.1 then b else P.2.1 j), (fun j => if j = P.1 then F else P.2.2.1 j), (fun j => if j = P.1 then m else P.2.2.2.1 j), P.2.2.2.2.1, P.2.2.2.2.2), P.1, false) := by
               unfold zme
               rw [zfd_no _ hno, if_neg (by omega), if_neg (by omega)]
             rw [hz] at hq
             refine hq _ _ (hF.st rfl) (hh.Y (hF.st rfl) rfl ?_ (fun j hj => ?_)) (fun _ => ⟨?_, e16⟩) (fun q => by cases q)
             · rw [zst_eq, e15]; rfl
             · have hj : j < P.1 + 1 := hj
               show h2 87 (j : Int) = ((if j = P.1 then b else P.2.1 j : Nat) : Int) ∧ ∀ v, 0 ≤ v → v < 6 → h2 88 (6 * (j : Int) + v) = (if j = P.1 then F else P.2.2.1 j) v
               by_cases e : j = P.1
               · simp only [if_pos e]
                 rw [e]
                 exact ⟨e87, e88⟩
               · simp only [if_neg e]
                 exact hr j (by omega)
             · rw [zst_eq, e15]
               show (P.1 : Int) + 1 - 1 = (P.1 : Int)
               omega)
        · refine And.intro (fun _ => ?_) (fun c => absurd (by decide) c)
          refine And.intro (by first | omega | (simp only [zx_st]; simp; omega)) ?_
          refine ⟨100 + 40 - (k7 + 1), by omega, Or.inl ⟨rfl, rfl, rfl, k7 + 1, rfl, by omega, rfl, fun j hj => ?_⟩⟩
          by_cases e : j = k7
          · rw [e]; exact hit
          · exact hno j (by omega)
      · intro c1
        constructor
        · intro c2
          skip
          refine And.intro (by first | exact Or.inl rfl | exact Or.inr rfl | omega) ?_
          first
          | (have hf := zfd_hit hno hit P.1 (by omega)
             have hz : zme P b F m = ((P.1, P.2.1, P.2.2.1, (fun j => if j = k7 ∧ P.2.2.2.1 j = -4 then m else P.2.2.2.1 j), P.2.2.2.2.1, P.2.2.2.2.2), k7, false) := by
               unfold zme
               rw [hf, if_pos (by omega)]
             rw [hz] at hq
             exact hq _ _ zF.rf ⟨hh.1, hh.2.1, hh.2.2⟩ (fun _ => ⟨rfl, rfl⟩) (fun q => by cases q))
          | (have kn : k7 = P.1 := by omega
             subst kn
             have hz : zme P b F m = (P, 0, true) := by
               unfold zme
               rw [zfd_no _ hno, if_neg (by omega), if_pos (by omega)]
             rw [hz] at hq
             exact hq _ _ (zF.rf.st rfl) ⟨hh.1, hh.2.1, hh.2.2⟩ (fun q => by cases q) (fun _ => zst_eq _ _ _ _))
          | (have k6 : k7 = 6 := by omega
             subst k6
             have hz : zme P b F m = ((P.1 + 1, (fun j => if j = P.1 then b else P.2.1 j), (fun j => if j = P.1 then F else P.2.2.1 j), (fun j => if j = P.1 then m else P.2.2.2.1 j), P.2.2.2.2.1, P.2.2.2.2.2), P.1, false) := by
               unfold zme
               rw [zfd_no _ hno, if_neg (by omega), if_neg (by omega)]
             rw [hz] at hq
             refine hq _ _ (hF.st rfl) (hh.Y (hF.st rfl) rfl ?_ (fun j hj => ?_)) (fun _ => ⟨?_, e16⟩) (fun q => by cases q)
             · rw [zst_eq, e15]; rfl
             · have hj : j < P.1 + 1 := hj
               show h2 87 (j : Int) = ((if j = P.1 then b else P.2.1 j : Nat) : Int) ∧ ∀ v, 0 ≤ v → v < 6 → h2 88 (6 * (j : Int) + v) = (if j = P.1 then F else P.2.2.1 j) v
               by_cases e : j = P.1
               · simp only [if_pos e]
                 rw [e]
                 exact ⟨e87, e88⟩
               · simp only [if_neg e]
                 exact hr j (by omega)
             · rw [zst_eq, e15]
               show (P.1 : Int) + 1 - 1 = (P.1 : Int)
               omega)
        · intro c2
          skip
          refine And.intro (by first | (show 0 ≤ _ ∧ _ < (40 : Int); omega) | (show 0 ≤ _ ∧ _ < (240 : Int); omega) | (show 0 ≤ _ ∧ _ < (6 : Int); omega) | (show 0 ≤ _ ∧ _ < (708 : Int); omega) | (show 0 ≤ _ ∧ _ < (4800 : Int); omega) | (show 0 ≤ _ ∧ _ < (8 : Int); omega)) ?_
          first
          | (have kn : k7 = P.1 := by omega
             subst kn
             refine ⟨6 - 0, by omega, Or.inr ⟨rfl, rfl, 0, rfl, by omega, rfl, zF.rf.st rfl, by omega, hno, h15, rfl, fun j hj => ?_, ?_, fun v h0 h1 => by omega⟩⟩
             · obtain ⟨a, b⟩ := hh.2.1 j hj
               exact ⟨by rw [zst_ne (by omega)]; exact a, b⟩
             · rw [h15]
               exact zst_eq _ _ _ _)
          | (refine ⟨6 - (k7 + 1), by omega, Or.inr ⟨rfl, rfl, k7 + 1, rfl, by omega, rfl, hF.st rfl, hlt, hno, e15, e16, fun j hj => ?_, e87, fun v h0 h1 => ?_⟩⟩
             · obtain ⟨a, b⟩ := hr j hj
               exact ⟨a, fun v h0 h6 => by rw [zst_ne (by omega)]; exact b v h0 h6⟩
             · rw [e15]
               by_cases e : v = (k7 : Int)
               · rw [e]; exact zst_eq _ _ _ _
               · rw [zst_ne (by omega)]; exact e88 v h0 (by omega))
    · obtain ⟨rfl, rfl, k7, rfl, hk7, hm0, hF, hlt, hno, e15, e16, hr, e87, e88⟩ := hI
      have he2 := he.fr (h2 := h2) (fun _ => hF _ _ rfl) (fun _ => hF _ _ rfl) (hF _ _ rfl)
      constructor
      · intro c3
        refine And.intro (by first | omega | (simp only [zx_st]; simp; omega)) ?_
        refine And.intro (by first | omega | (simp only [zx_st]; simp; omega)) ?_
        refine s_74t he2 hw hb (v := (k7 : Int)) (by omega) (y := F (k7 : Int)) ((hF0 _ (by omega) (by omega)).trans (by unfold ztd; rw [hF 95 _ rfl])) ?_
        refine And.intro (by first | (show 0 ≤ _ ∧ _ < (40 : Int); omega) | (show 0 ≤ _ ∧ _ < (240 : Int); omega) | (show 0 ≤ _ ∧ _ < (6 : Int); omega) | (show 0 ≤ _ ∧ _ < (708 : Int); omega) | (show 0 ≤ _ ∧ _ < (4800 : Int); omega) | (show 0 ≤ _ ∧ _ < (8 : Int); omega)) ?_
        refine And.intro (by first | omega | (simp only [zx_st]; simp; omega)) ?_
        first
        | (have kn : k7 = P.1 := by omega
           subst kn
           refine ⟨6 - 0, by omega, Or.inr ⟨rfl, rfl, 0, rfl, by omega, rfl, zF.rf.st rfl, by omega, hno, h15, rfl, fun j hj => ?_, ?_, fun v h0 h1 => by omega⟩⟩
           · obtain ⟨a, b⟩ := hh.2.1 j hj
             exact ⟨by rw [zst_ne (by omega)]; exact a, b⟩
           · rw [h15]
             exact zst_eq _ _ _ _)
        | (refine ⟨6 - (k7 + 1), by omega, Or.inr ⟨rfl, rfl, k7 + 1, rfl, by omega, rfl, hF.st rfl, hlt, hno, e15, e16, fun j hj => ?_, e87, fun v h0 h1 => ?_⟩⟩
           · obtain ⟨a, b⟩ := hr j hj
             exact ⟨a, fun v h0 h6 => by rw [zst_ne (by omega)]; exact b v h0 h6⟩
           · rw [e15]
             by_cases e : v = (k7 : Int)
             · rw [e]; exact zst_eq _ _ _ _
             · rw [zst_ne (by omega)]; exact e88 v h0 (by omega))
      · intro c3
        refine And.intro (by first | omega | (simp only [zx_st]; simp; omega)) ?_
        refine And.intro (by first | omega | (simp only [zx_st]; simp; omega)) ?_
        first
        | (have hf := zfd_hit hno hit P.1 (by omega)
           have hz : zme P b F m = ((P.1, P.2.1, P.2.2.1, (fun j => if j = k7 ∧ P.2.2.2.1 j = -4 then m else P.2.2.2.1 j), P.2.2.2.2.1, P.2.2.2.2.2), k7, false) := by
             unfold zme
             rw [hf, if_pos (by omega)]
           rw [hz] at hq
           exact hq _ _ zF.rf ⟨hh.1, hh.2.1, hh.2.2⟩ (fun _ => ⟨rfl, rfl⟩) (fun q => by cases q))
        | (have kn : k7 = P.1 := by omega
           subst kn
           have hz : zme P b F m = (P, 0, true) := by
             unfold zme
             rw [zfd_no _ hno, if_neg (by omega), if_pos (by omega)]
           rw [hz] at hq
           exact hq _ _ (zF.rf.st rfl) ⟨hh.1, hh.2.1, hh.2.2⟩ (fun q => by cases q) (fun _ => zst_eq _ _ _ _))
        | (have k6 : k7 = 6 := by omega
           subst k6
           have hz : zme P b F m = ((P.1 + 1, (fun j => if j = P.1 then b else P.2.1 j), (fun j => if j = P.1 then F else P.2.2.1 j), (fun j => if j = P.1 then m else P.2.2.2.1 j), P.2.2.2.2.1, P.2.2.2.2.2), P.1, false) := by
             unfold zme
             rw [zfd_no _ hno, if_neg (by omega), if_neg (by omega)]
           rw [hz] at hq
           refine hq _ _ (hF.st rfl) (hh.Y (hF.st rfl) rfl ?_ (fun j hj => ?_)) (fun _ => ⟨?_, e16⟩) (fun q => by cases q)
           · rw [zst_eq, e15]; rfl
           · have hj : j < P.1 + 1 := hj
             show h2 87 (j : Int) = ((if j = P.1 then b else P.2.1 j : Nat) : Int) ∧ ∀ v, 0 ≤ v → v < 6 → h2 88 (6 * (j : Int) + v) = (if j = P.1 then F else P.2.2.1 j) v
             by_cases e : j = P.1
             · simp only [if_pos e]
               rw [e]
               exact ⟨e87, e88⟩
             · simp only [if_neg e]
               exact hr j (by omega)
           · rw [zst_eq, e15]
             show (P.1 : Int) + 1 - 1 = (P.1 : Int)
             omega)
/-- of the reference's point k is left s -/
def zKm (h : zM) (k : Nat) (s : zLs) : Prop := h 93 (k : Int) = (s.2.1 : Int) ∧ (∀ i w : Nat, i < s.2.1 → w < 5 → h 94 (120 * (k : Int) + 5 * (i : Int) + (w : Int)) = s.2.2 i w) ∧ ∀ v, 0 ≤ v → v < 6 → h 95 v = s.1 v
def zMj (k : Nat) : Nat → Int → Bool := fun r j => Nat.beq r 95 || (Nat.beq r 93 && decide (j = (k : Int))) || (Nat.beq r 94 && decide (120 * (k : Int) ≤ j) && decide (j < 120 * (k : Int) + 120))
theorem zMj_94 {k : Nat} {j : Int} (h : 120 * (k : Int) ≤ j ∧ j < 120 * (k : Int) + 120) : zMj k 94 j = true := by
  unfold zMj
  rw [decide_eq_true h.1, decide_eq_true h.2]
  rfl
theorem zMj_93 {k : Nat} : zMj k 93 (k : Int) = true := by
  unfold zMj
  simp
set_option maxHeartbeats 4000000 in
set_option maxRecDepth 100000 in
/-- M.leaves -/
theorem s_79 {h : zM} {G : zG} (he : zEm h G) (hw : zWf G) {i : Nat} (hi : i < G.2.2.1) {x : Int} (hx : x = (i : Int)) {k : Nat} (hk : k < 40) {s : zLs} {n : Nat} (hp : zKm h k s) (hs : zLo s n) (hn : n < 24) {Q : zQ} (hq : ∀ h2, zF (zMj k) h h2 → zKm h2 k (zlv1 (zUG G) (G.2.2.2.1 i) s) → Q none h2) : zR 79 [.inr (.inr 81), .inl (k : Int), .inl x] h Q := by
  subst hx
  have ht := hw.2.2.2.1 i hi
  have ht2 := ht
  unfold zWS at ht2
  have hkn := zKn_G hw hi
  have hn24 := hw.2.1
  have hu := zUG_b hw
  obtain ⟨p1, p2, p3⟩ := hp
  have hs2 := hs.2.1
  have hd := he.2.1
  have t0 : h 82 (i : Int) = G.2.2.2.1 i 0 := he.1.s hi 0 (by omega) (by omega)
  have t1 : h 82 (24 + (i : Int)) = G.2.2.2.1 i 1 := he.1.s hi 1 (by omega) (by omega)
  have t2 : h 82 (48 + (i : Int)) = G.2.2.2.1 i 2 := he.1.s hi 2 (by omega) (by omega)
  have t3 : h 82 (72 + (i : Int)) = G.2.2.2.1 i 3 := he.1.s hi 3 (by omega) (by omega)
  have t4 : h 82 (96 + (i : Int)) = G.2.2.2.1 i 4 := he.1.s hi 4 (by omega) (by omega)
  have hz : G.2.2.2.1 i 0 = 0 → (zx_and (zx_shr (h 81 12) (h 82 (24 + (i : Int)))) 1 = 0 ↔ Nat.testBit (zUG G) (G.2.2.2.1 i 1).toNat = false) := by
    intro q
    have hz := zB_bit _ hu (G.2.2.2.1 i 1).toNat (by omega)
    rw [Int.toNat_of_nonneg (by omega)] at hz
    rw [hd, t1]
    exact hz
  refine zx_met0 zk_79 (Or.inr ⟨_, _, rfl, rfl⟩) (Nat.le_of_ble_eq_true rfl) 1000 (fun hok hM => ?_)
  refine And.intro (by first | (show 0 ≤ _ ∧ _ < (40 : Int); omega) | (show 0 ≤ _ ∧ _ < (240 : Int); omega) | (show 0 ≤ _ ∧ _ < (6 : Int); omega) | (show 0 ≤ _ ∧ _ < (708 : Int); omega) | (show 0 ≤ _ ∧ _ < (4800 : Int); omega) | (show 0 ≤ _ ∧ _ < (8 : Int); omega)) ?_
  constructor
  · intro c1
    refine And.intro (by first | omega | (simp only [zx_st]; simp; omega)) ?_
    refine And.intro (by first | (show 0 ≤ _ ∧ _ < (40 : Int); omega) | (show 0 ≤ _ ∧ _ < (240 : Int); omega) | (show 0 ≤ _ ∧ _ < (6 : Int); omega) | (show 0 ≤ _ ∧ _ < (708 : Int); omega) | (show 0 ≤ _ ∧ _ < (4800 : Int); omega) | (show 0 ≤ _ ∧ _ < (8 : Int); omega)) ?_
    constructor
    · intro c2
      refine And.intro (by first | omega | (simp only [zx_st]; simp; omega)) ?_
      refine And.intro (by first | (show 0 ≤ _ ∧ _ < (40 : Int); omega) | (show 0 ≤ _ ∧ _ < (240 : Int); omega) | (show 0 ≤ _ ∧ _ < (6 : Int); omega) | (show 0 ≤ _ ∧ _ < (708 : Int); omega) | (show 0 ≤ _ ∧ _ < (4800 : Int); omega) | (show 0 ≤ _ ∧ _ < (8 : Int); omega)) ?_
      refine And.intro (by first | omega | (simp only [zx_st]; simp; omega)) ?_
      refine And.intro (by first | (show 0 ≤ _ ∧ _ < (40 : Int); omega) | (show 0 ≤ _ ∧ _ < (240 : Int); omega) | (show 0 ≤ _ ∧ _ < (6 : Int); omega) | (show 0 ≤ _ ∧ _ < (708 : Int); omega) | (show 0 ≤ _ ∧ _ < (4800 : Int); omega) | (show 0 ≤ _ ∧ _ < (8 : Int); omega)) ?_
      refine And.intro (by first | omega | (simp only [zx_st]; simp; omega)) ?_
      refine And.intro (by first | (show 0 ≤ _ ∧ _ < (40 : Int); omega) | (show 0 ≤ _ ∧ _ < (240 : Int); omega) | (show 0 ≤ _ ∧ _ < (6 : Int); omega) | (show 0 ≤ _ ∧ _ < (708 : Int); omega) | (show 0 ≤ _ ∧ _ < (4800 : Int); omega) | (show 0 ≤ _ ∧ _ < (8 : Int); omega)) ?_
      refine s_76t p3 t2 (by omega) ?_
      refine And.intro (by first | omega | (simp only [zx_st]; simp; omega)) ?_
      refine And.intro (by first | (show 0 ≤ _ ∧ _ < (40 : Int); omega) | (show 0 ≤ _ ∧ _ < (240 : Int); omega) | (show 0 ≤ _ ∧ _ < (6 : Int); omega) | (show 0 ≤ _ ∧ _ < (708 : Int); omega) | (show 0 ≤ _ ∧ _ < (4800 : Int); omega) | (show 0 ≤ _ ∧ _ < (8 : Int); omega)) ?_
      refine s_76t p3 t4 (by omega) ?_
      have hb1 := (hz (by omega)).mp (by assumption)
      obtain ⟨k2, k4⟩ := hkn (by omega) hb1
      have l2 := zlo_k hs.1 (show 0 ≤ G.2.2.2.1 i 2 ∧ _ by omega) k2
      have l4 := zlo_k hs.1 (show 0 ≤ G.2.2.2.1 i 4 ∧ _ by omega) k4
      refine s_77e t3 l2.1.symm l4.1.symm l2.2 l4.2 ?_
      refine And.intro (by first | (show 0 ≤ _ ∧ _ < (40 : Int); omega) | (show 0 ≤ _ ∧ _ < (240 : Int); omega) | (show 0 ≤ _ ∧ _ < (6 : Int); omega) | (show 0 ≤ _ ∧ _ < (708 : Int); omega) | (show 0 ≤ _ ∧ _ < (4800 : Int); omega) | (show 0 ≤ _ ∧ _ < (8 : Int); omega)) ?_
      first
      | (have hz2 : zlv1 (zUG G) (G.2.2.2.1 i) s = ((fun j => if j = G.2.2.2.1 i 1 then zres (G.2.2.2.1 i 3) (zlo (zUG G) s.1 (G.2.2.2.1 i 2)) (zlo (zUG G) s.1 (G.2.2.2.1 i 4)) else s.1 j), s.2.1, s.2.2) := by
           unfold zlv1
           rw [if_pos ⟨by omega, hb1⟩]
         refine hq _ (zF.rf.st rfl) ?_
         rw [hz2]
         refine ⟨p1, p2, fun v h0 h6 => ?_⟩
         show _ = if v = G.2.2.2.1 i 1 then _ else s.1 v
         rw [t1]
         by_cases e : v = G.2.2.2.1 i 1
         · rw [if_pos e, e]; exact zst_eq _ _ _ _
         · rw [if_neg e, zst_ne e]; exact p3 v h0 h6)
      | (have hz2 : zlv1 (zUG G) (G.2.2.2.1 i) s = (s.1, s.2.1 + 1, fun j => if j = s.2.1 then zns (zUG G) s.1 (G.2.2.2.1 i) else s.2.2 j) := by
           unfold zlv1
           rw [if_neg]
           rintro ⟨q1, q2⟩
           first
           | omega
           | (have := (hz q1).mpr q2; omega)
         refine hq _ ?_ ?_
         · exact (((((zF.rf.st (zMj_94 (by omega))).st (zMj_94 (by omega))).st (zMj_94 (by omega))).st (zMj_94 (by omega))).st (zMj_94 (by omega))).st zMj_93
         · rw [hz2]
           refine ⟨?_, fun j w hj hw => ?_, p3⟩
           · rw [zst_eq]
             show h 93 (k : Int) + 1 = ((s.2.1 + 1 : Nat) : Int)
             omega
           · have hj : j < s.2.1 + 1 := hj
             rw [zst_nr (by omega)]
             show _ = (if j = s.2.1 then zns (zUG G) s.1 (G.2.2.2.1 i) else s.2.2 j) w
             by_cases e : j = s.2.1
             · rw [if_pos e, e]
               rcases (show w = 0 ∨ w = 1 ∨ w = 2 ∨ w = 3 ∨ w = 4 by omega) with rfl | rfl | rfl | rfl | rfl
               · rw [zst_ne (by omega), zst_ne (by omega), zst_ne (by omega), zst_ne (by omega), show 120 * (k : Int) + 5 * (s.2.1 : Int) + ((0 : Nat) : Int) = 120 * (k : Int) + 5 * h 93 (k : Int) by omega, zst_eq]
                 exact t0
               · rw [zst_ne (by omega), zst_ne (by omega), zst_ne (by omega), show 120 * (k : Int) + 5 * (s.2.1 : Int) + ((1 : Nat) : Int) = 120 * (k : Int) + 5 * h 93 (k : Int) + 1 by omega, zst_eq]
                 exact t1
               · rw [zst_ne (by omega), zst_ne (by omega), show 120 * (k : Int) + 5 * (s.2.1 : Int) + ((2 : Nat) : Int) = 120 * (k : Int) + 5 * h 93 (k : Int) + 2 by omega, zst_eq]
                 rfl
               · rw [zst_ne (by omega), show 120 * (k : Int) + 5 * (s.2.1 : Int) + ((3 : Nat) : Int) = 120 * (k : Int) + 5 * h 93 (k : Int) + 3 by omega, zst_eq]
                 exact t3
               · rw [show 120 * (k : Int) + 5 * (s.2.1 : Int) + ((4 : Nat) : Int) = 120 * (k : Int) + 5 * h 93 (k : Int) + 4 by omega, zst_eq]
                 rfl
             · rw [if_neg e, zst_ne (by omega), zst_ne (by omega), zst_ne (by omega), zst_ne (by omega), zst_ne (by omega)]
               exact p2 j w (by omega) hw)
    · intro c2
      refine And.intro (by first | omega | (simp only [zx_st]; simp; omega)) ?_
      refine And.intro (by first | (show 0 ≤ _ ∧ _ < (40 : Int); omega) | (show 0 ≤ _ ∧ _ < (240 : Int); omega) | (show 0 ≤ _ ∧ _ < (6 : Int); omega) | (show 0 ≤ _ ∧ _ < (708 : Int); omega) | (show 0 ≤ _ ∧ _ < (4800 : Int); omega) | (show 0 ≤ _ ∧ _ < (8 : Int); omega)) ?_
      refine And.intro (by first | omega | (simp only [zx_st]; simp; omega)) ?_
      refine And.intro (by first | omega | (simp only [zx_st]; simp; omega)) ?_
      refine And.intro (by first | (show 0 ≤ _ ∧ _ < (40 : Int); omega) | (show 0 ≤ _ ∧ _ < (240 : Int); omega) | (show 0 ≤ _ ∧ _ < (6 : Int); omega) | (show 0 ≤ _ ∧ _ < (708 : Int); omega) | (show 0 ≤ _ ∧ _ < (4800 : Int); omega) | (show 0 ≤ _ ∧ _ < (8 : Int); omega)) ?_
      refine And.intro (by first | (show 0 ≤ _ ∧ _ < (40 : Int); omega) | (show 0 ≤ _ ∧ _ < (240 : Int); omega) | (show 0 ≤ _ ∧ _ < (6 : Int); omega) | (show 0 ≤ _ ∧ _ < (708 : Int); omega) | (show 0 ≤ _ ∧ _ < (4800 : Int); omega) | (show 0 ≤ _ ∧ _ < (8 : Int); omega)) ?_
      refine And.intro (by first | omega | (simp only [zx_st]; simp; omega)) ?_
      refine And.intro (by first | omega | (simp only [zx_st]; simp; omega)) ?_
      refine And.intro (by first | (show 0 ≤ _ ∧ _ < (40 : Int); omega) | (show 0 ≤ _ ∧ _ < (240 : Int); omega) | (show 0 ≤ _ ∧ _ < (6 : Int); omega) | (show 0 ≤ _ ∧ _ < (708 : Int); omega) | (show 0 ≤ _ ∧ _ < (4800 : Int); omega) | (show 0 ≤ _ ∧ _ < (8 : Int); omega)) ?_
      refine And.intro (by first | (show 0 ≤ _ ∧ _ < (40 : Int); omega) | (show 0 ≤ _ ∧ _ < (240 : Int); omega) | (show 0 ≤ _ ∧ _ < (6 : Int); omega) | (show 0 ≤ _ ∧ _ < (708 : Int); omega) | (show 0 ≤ _ ∧ _ < (4800 : Int); omega) | (show 0 ≤ _ ∧ _ < (8 : Int); omega)) ?_
      refine And.intro (by first | omega | (simp only [zx_st]; simp; omega)) ?_
      refine And.intro (by first | omega | (simp only [zx_st]; simp; omega)) ?_
      refine And.intro (by first | (show 0 ≤ _ ∧ _ < (40 : Int); omega) | (show 0 ≤ _ ∧ _ < (240 : Int); omega) | (show 0 ≤ _ ∧ _ < (6 : Int); omega) | (show 0 ≤ _ ∧ _ < (708 : Int); omega) | (show 0 ≤ _ ∧ _ < (4800 : Int); omega) | (show 0 ≤ _ ∧ _ < (8 : Int); omega)) ?_
      refine s_78t (f := s.1) (o := G.2.2.2.1 i 2) hu ?_ ?_ ?_ (by omega) ?_
      · exact hd
      · exact p3
      · exact t2
      refine And.intro (by first | (show 0 ≤ _ ∧ _ < (40 : Int); omega) | (show 0 ≤ _ ∧ _ < (240 : Int); omega) | (show 0 ≤ _ ∧ _ < (6 : Int); omega) | (show 0 ≤ _ ∧ _ < (708 : Int); omega) | (show 0 ≤ _ ∧ _ < (4800 : Int); omega) | (show 0 ≤ _ ∧ _ < (8 : Int); omega)) ?_
      refine And.intro (by first | omega | (simp only [zx_st]; simp; omega)) ?_
      refine And.intro (by first | omega | (simp only [zx_st]; simp; omega)) ?_
      refine And.intro (by first | (show 0 ≤ _ ∧ _ < (40 : Int); omega) | (show 0 ≤ _ ∧ _ < (240 : Int); omega) | (show 0 ≤ _ ∧ _ < (6 : Int); omega) | (show 0 ≤ _ ∧ _ < (708 : Int); omega) | (show 0 ≤ _ ∧ _ < (4800 : Int); omega) | (show 0 ≤ _ ∧ _ < (8 : Int); omega)) ?_
      refine And.intro (by first | (show 0 ≤ _ ∧ _ < (40 : Int); omega) | (show 0 ≤ _ ∧ _ < (240 : Int); omega) | (show 0 ≤ _ ∧ _ < (6 : Int); omega) | (show 0 ≤ _ ∧ _ < (708 : Int); omega) | (show 0 ≤ _ ∧ _ < (4800 : Int); omega) | (show 0 ≤ _ ∧ _ < (8 : Int); omega)) ?_
      refine And.intro (by first | omega | (simp only [zx_st]; simp; omega)) ?_
      refine And.intro (by first | omega | (simp only [zx_st]; simp; omega)) ?_
      refine And.intro (by first | (show 0 ≤ _ ∧ _ < (40 : Int); omega) | (show 0 ≤ _ ∧ _ < (240 : Int); omega) | (show 0 ≤ _ ∧ _ < (6 : Int); omega) | (show 0 ≤ _ ∧ _ < (708 : Int); omega) | (show 0 ≤ _ ∧ _ < (4800 : Int); omega) | (show 0 ≤ _ ∧ _ < (8 : Int); omega)) ?_
      refine s_78t (f := s.1) (o := G.2.2.2.1 i 4) hu ?_ ?_ ?_ (by omega) ?_
      · exact hd
      · exact p3
      · exact t4
      refine And.intro (by first | (show 0 ≤ _ ∧ _ < (40 : Int); omega) | (show 0 ≤ _ ∧ _ < (240 : Int); omega) | (show 0 ≤ _ ∧ _ < (6 : Int); omega) | (show 0 ≤ _ ∧ _ < (708 : Int); omega) | (show 0 ≤ _ ∧ _ < (4800 : Int); omega) | (show 0 ≤ _ ∧ _ < (8 : Int); omega)) ?_
      refine And.intro (by first | (show 0 ≤ _ ∧ _ < (40 : Int); omega) | (show 0 ≤ _ ∧ _ < (240 : Int); omega) | (show 0 ≤ _ ∧ _ < (6 : Int); omega) | (show 0 ≤ _ ∧ _ < (708 : Int); omega) | (show 0 ≤ _ ∧ _ < (4800 : Int); omega) | (show 0 ≤ _ ∧ _ < (8 : Int); omega)) ?_
      refine And.intro (by first | omega | (simp only [zx_st]; simp; omega)) ?_
      refine And.intro (by first | (show 0 ≤ _ ∧ _ < (40 : Int); omega) | (show 0 ≤ _ ∧ _ < (240 : Int); omega) | (show 0 ≤ _ ∧ _ < (6 : Int); omega) | (show 0 ≤ _ ∧ _ < (708 : Int); omega) | (show 0 ≤ _ ∧ _ < (4800 : Int); omega) | (show 0 ≤ _ ∧ _ < (8 : Int); omega)) ?_
      first
      | (have hz2 : zlv1 (zUG G) (G.2.2.2.1 i) s = ((fun j => if j = G.2.2.2.1 i 1 then zres (G.2.2.2.1 i 3) (zlo (zUG G) s.1 (G.2.2.2.1 i 2)) (zlo (zUG G) s.1 (G.2.2.2.1 i 4)) else s.1 j), s.2.1, s.2.2) := by
           unfold zlv1
           rw [if_pos ⟨by omega, hb1⟩]
         refine hq _ (zF.rf.st rfl) ?_
         rw [hz2]
         refine ⟨p1, p2, fun v h0 h6 => ?_⟩
         show _ = if v = G.2.2.2.1 i 1 then _ else s.1 v
         rw [t1]
         by_cases e : v = G.2.2.2.1 i 1
         · rw [if_pos e, e]; exact zst_eq _ _ _ _
         · rw [if_neg e, zst_ne e]; exact p3 v h0 h6)
      | (have hz2 : zlv1 (zUG G) (G.2.2.2.1 i) s = (s.1, s.2.1 + 1, fun j => if j = s.2.1 then zns (zUG G) s.1 (G.2.2.2.1 i) else s.2.2 j) := by
           unfold zlv1
           rw [if_neg]
           rintro ⟨q1, q2⟩
           first
           | omega
           | (have := (hz q1).mpr q2; omega)
         refine hq _ ?_ ?_
         · exact (((((zF.rf.st (zMj_94 (by omega))).st (zMj_94 (by omega))).st (zMj_94 (by omega))).st (zMj_94 (by omega))).st (zMj_94 (by omega))).st zMj_93
         · rw [hz2]
           refine ⟨?_, fun j w hj hw => ?_, p3⟩
           · rw [zst_eq]
             show h 93 (k : Int) + 1 = ((s.2.1 + 1 : Nat) : Int)
             omega
           · have hj : j < s.2.1 + 1 := hj
             rw [zst_nr (by omega)]
             show _ = (if j = s.2.1 then zns (zUG G) s.1 (G.2.2.2.1 i) else s.2.2 j) w
             by_cases e : j = s.2.1
             · rw [if_pos e, e]
               rcases (show w = 0 ∨ w = 1 ∨ w = 2 ∨ w = 3 ∨ w = 4 by omega) with rfl | rfl | rfl | rfl | rfl
               · rw [zst_ne (by omega), zst_ne (by omega), zst_ne (by omega), zst_ne (by omega), show 120 * (k : Int) + 5 * (s.2.1 : Int) + ((0 : Nat) : Int) = 120 * (k : Int) + 5 * h 93 (k : Int) by omega, zst_eq]
                 exact t0
               · rw [zst_ne (by omega), zst_ne (by omega), zst_ne (by omega), show 120 * (k : Int) + 5 * (s.2.1 : Int) + ((1 : Nat) : Int) = 120 * (k : Int) + 5 * h 93 (k : Int) + 1 by omega, zst_eq]
                 exact t1
               · rw [zst_ne (by omega), zst_ne (by omega), show 120 * (k : Int) + 5 * (s.2.1 : Int) + ((2 : Nat) : Int) = 120 * (k : Int) + 5 * h 93 (k : Int) + 2 by omega, zst_eq]
                 rfl
               · rw [zst_ne (by omega), show 120 * (k : Int) + 5 * (s.2.1 : Int) + ((3 : Nat) : Int) = 120 * (k : Int) + 5 * h 93 (k : Int) + 3 by omega, zst_eq]
                 exact t3
               · rw [show 120 * (k : Int) + 5 * (s.2.1 : Int) + ((4 : Nat) : Int) = 120 * (k : Int) + 5 * h 93 (k : Int) + 4 by omega, zst_eq]
                 rfl
             · rw [if_neg e, zst_ne (by omega), zst_ne (by omega), zst_ne (by omega), zst_ne (by omega), zst_ne (by omega)]
               exact p2 j w (by omega) hw)
  · intro c1
    refine And.intro (by first | omega | (simp only [zx_st]; simp; omega)) ?_
    refine And.intro (by first | (show 0 ≤ _ ∧ _ < (40 : Int); omega) | (show 0 ≤ _ ∧ _ < (240 : Int); omega) | (show 0 ≤ _ ∧ _ < (6 : Int); omega) | (show 0 ≤ _ ∧ _ < (708 : Int); omega) | (show 0 ≤ _ ∧ _ < (4800 : Int); omega) | (show 0 ≤ _ ∧ _ < (8 : Int); omega)) ?_
    refine And.intro (by first | omega | (simp only [zx_st]; simp; omega)) ?_
    refine And.intro (by first | omega | (simp only [zx_st]; simp; omega)) ?_
    refine And.intro (by first | (show 0 ≤ _ ∧ _ < (40 : Int); omega) | (show 0 ≤ _ ∧ _ < (240 : Int); omega) | (show 0 ≤ _ ∧ _ < (6 : Int); omega) | (show 0 ≤ _ ∧ _ < (708 : Int); omega) | (show 0 ≤ _ ∧ _ < (4800 : Int); omega) | (show 0 ≤ _ ∧ _ < (8 : Int); omega)) ?_
    refine And.intro (by first | (show 0 ≤ _ ∧ _ < (40 : Int); omega) | (show 0 ≤ _ ∧ _ < (240 : Int); omega) | (show 0 ≤ _ ∧ _ < (6 : Int); omega) | (show 0 ≤ _ ∧ _ < (708 : Int); omega) | (show 0 ≤ _ ∧ _ < (4800 : Int); omega) | (show 0 ≤ _ ∧ _ < (8 : Int); omega)) ?_
    refine And.intro (by first | omega | (simp only [zx_st]; simp; omega)) ?_
    refine And.intro (by first | omega | (simp only [zx_st]; simp; omega)) ?_
    refine And.intro (by first | (show 0 ≤ _ ∧ _ < (40 : Int); omega) | (show 0 ≤ _ ∧ _ < (240 : Int); omega) | (show 0 ≤ _ ∧ _ < (6 : Int); omega) | (show 0 ≤ _ ∧ _ < (708 : Int); omega) | (show 0 ≤ _ ∧ _ < (4800 : Int); omega) | (show 0 ≤ _ ∧ _ < (8 : Int); omega)) ?_
    refine And.intro (by first | (show 0 ≤ _ ∧ _ < (40 : Int); omega) | (show 0 ≤ _ ∧ _ < (240 : Int); omega) | (show 0 ≤ _ ∧ _ < (6 : Int); omega) | (show 0 ≤ _ ∧ _ < (708 : Int); omega) | (show 0 ≤ _ ∧ _ < (4800 : Int); omega) | (show 0 ≤ _ ∧ _ < (8 : Int); omega)) ?_
    refine And.intro (by first | omega | (simp only [zx_st]; simp; omega)) ?_
    refine And.intro (by first | omega | (simp only [zx_st]; simp; omega)) ?_
    refine And.intro (by first | (show 0 ≤ _ ∧ _ < (40 : Int); omega) | (show 0 ≤ _ ∧ _ < (240 : Int); omega) | (show 0 ≤ _ ∧ _ < (6 : Int); omega) | (show 0 ≤ _ ∧ _ < (708 : Int); omega) | (show 0 ≤ _ ∧ _ < (4800 : Int); omega) | (show 0 ≤ _ ∧ _ < (8 : Int); omega)) ?_
    refine s_78t (f := s.1) (o := G.2.2.2.1 i 2) hu ?_ ?_ ?_ (by omega) ?_
    · exact hd
    · exact p3
    · exact t2
    refine And.intro (by first | (show 0 ≤ _ ∧ _ < (40 : Int); omega) | (show 0 ≤ _ ∧ _ < (240 : Int); omega) | (show 0 ≤ _ ∧ _ < (6 : Int); omega) | (show 0 ≤ _ ∧ _ < (708 : Int); omega) | (show 0 ≤ _ ∧ _ < (4800 : Int); omega) | (show 0 ≤ _ ∧ _ < (8 : Int); omega)) ?_
    refine And.intro (by first | omega | (simp only [zx_st]; simp; omega)) ?_
    refine And.intro (by first | omega | (simp only [zx_st]; simp; omega)) ?_
    refine And.intro (by first | (show 0 ≤ _ ∧ _ < (40 : Int); omega) | (show 0 ≤ _ ∧ _ < (240 : Int); omega) | (show 0 ≤ _ ∧ _ < (6 : Int); omega) | (show 0 ≤ _ ∧ _ < (708 : Int); omega) | (show 0 ≤ _ ∧ _ < (4800 : Int); omega) | (show 0 ≤ _ ∧ _ < (8 : Int); omega)) ?_
    refine And.intro (by first | (show 0 ≤ _ ∧ _ < (40 : Int); omega) | (show 0 ≤ _ ∧ _ < (240 : Int); omega) | (show 0 ≤ _ ∧ _ < (6 : Int); omega) | (show 0 ≤ _ ∧ _ < (708 : Int); omega) | (show 0 ≤ _ ∧ _ < (4800 : Int); omega) | (show 0 ≤ _ ∧ _ < (8 : Int); omega)) ?_
    refine And.intro (by first | omega | (simp only [zx_st]; simp; omega)) ?_
    refine And.intro (by first | omega | (simp only [zx_st]; simp; omega)) ?_
    refine And.intro (by first | (show 0 ≤ _ ∧ _ < (40 : Int); omega) | (show 0 ≤ _ ∧ _ < (240 : Int); omega) | (show 0 ≤ _ ∧ _ < (6 : Int); omega) | (show 0 ≤ _ ∧ _ < (708 : Int); omega) | (show 0 ≤ _ ∧ _ < (4800 : Int); omega) | (show 0 ≤ _ ∧ _ < (8 : Int); omega)) ?_
    refine s_78t (f := s.1) (o := G.2.2.2.1 i 4) hu ?_ ?_ ?_ (by omega) ?_
    · exact hd
    · exact p3
    · exact t4
    refine And.intro (by first | (show 0 ≤ _ ∧ _ < (40 : Int); omega) | (show 0 ≤ _ ∧ _ < (240 : Int); omega) | (show 0 ≤ _ ∧ _ < (6 : Int); omega) | (show 0 ≤ _ ∧ _ < (708 : Int); omega) | (show 0 ≤ _ ∧ _ < (4800 : Int); omega) | (show 0 ≤ _ ∧ _ < (8 : Int); omega)) ?_
    refine And.intro (by first | (show 0 ≤ _ ∧ _ < (40 : Int); omega) | (show 0 ≤ _ ∧ _ < (240 : Int); omega) | (show 0 ≤ _ ∧ _ < (6 : Int); omega) | (show 0 ≤ _ ∧ _ < (708 : Int); omega) | (show 0 ≤ _ ∧ _ < (4800 : Int); omega) | (show 0 ≤ _ ∧ _ < (8 : Int); omega)) ?_
    refine And.intro (by first | omega | (simp only [zx_st]; simp; omega)) ?_
    refine And.intro (by first | (show 0 ≤ _ ∧ _ < (40 : Int); omega) | (show 0 ≤ _ ∧ _ < (240 : Int); omega) | (show 0 ≤ _ ∧ _ < (6 : Int); omega) | (show 0 ≤ _ ∧ _ < (708 : Int); omega) | (show 0 ≤ _ ∧ _ < (4800 : Int); omega) | (show 0 ≤ _ ∧ _ < (8 : Int); omega)) ?_
    first
    | (have hz2 : zlv1 (zUG G) (G.2.2.2.1 i) s = ((fun j => if j = G.2.2.2.1 i 1 then zres (G.2.2.2.1 i 3) (zlo (zUG G) s.1 (G.2.2.2.1 i 2)) (zlo (zUG G) s.1 (G.2.2.2.1 i 4)) else s.1 j), s.2.1, s.2.2) := by
         unfold zlv1
         rw [if_pos ⟨by omega, hb1⟩]
       refine hq _ (zF.rf.st rfl) ?_
       rw [hz2]
       refine ⟨p1, p2, fun v h0 h6 => ?_⟩
       show _ = if v = G.2.2.2.1 i 1 then _ else s.1 v
       rw [t1]
       by_cases e : v = G.2.2.2.1 i 1
       · rw [if_pos e, e]; exact zst_eq _ _ _ _
       · rw [if_neg e, zst_ne e]; exact p3 v h0 h6)
    | (have hz2 : zlv1 (zUG G) (G.2.2.2.1 i) s = (s.1, s.2.1 + 1, fun j => if j = s.2.1 then zns (zUG G) s.1 (G.2.2.2.1 i) else s.2.2 j) := by
         unfold zlv1
         rw [if_neg]
         rintro ⟨q1, q2⟩
         first
         | omega
         | (have := (hz q1).mpr q2; omega)
       refine hq _ ?_ ?_
       · exact (((((zF.rf.st (zMj_94 (by omega))).st (zMj_94 (by omega))).st (zMj_94 (by omega))).st (zMj_94 (by omega))).st (zMj_94 (by omega))).st zMj_93
       · rw [hz2]
         refine ⟨?_, fun j w hj hw => ?_, p3⟩
         · rw [zst_eq]
           show h 93 (k : Int) + 1 = ((s.2.1 + 1 : Nat) : Int)
           omega
         · have hj : j < s.2.1 + 1 := hj
           rw [zst_nr (by omega)]
           show _ = (if j = s.2.1 then zns (zUG G) s.1 (G.2.2.2.1 i) else s.2.2 j) w
           by_cases e : j = s.2.1
           · rw [if_pos e, e]
             rcases (show w = 0 ∨ w = 1 ∨ w = 2 ∨ w = 3 ∨ w = 4 by omega) with rfl | rfl | rfl | rfl | rfl
             · rw [zst_ne (by omega), zst_ne (by omega), zst_ne (by omega), zst_ne (by omega), show 120 * (k : Int) + 5 * (s.2.1 : Int) + ((0 : Nat) : Int) = 120 * (k : Int) + 5 * h 93 (k : Int) by omega, zst_eq]
               exact t0
             · rw [zst_ne (by omega), zst_ne (by omega), zst_ne (by omega), show 120 * (k : Int) + 5 * (s.2.1 : Int) + ((1 : Nat) : Int) = 120 * (k : Int) + 5 * h 93 (k : Int) + 1 by omega, zst_eq]
               exact t1
             · rw [zst_ne (by omega), zst_ne (by omega), show 120 * (k : Int) + 5 * (s.2.1 : Int) + ((2 : Nat) : Int) = 120 * (k : Int) + 5 * h 93 (k : Int) + 2 by omega, zst_eq]
               rfl
             · rw [zst_ne (by omega), show 120 * (k : Int) + 5 * (s.2.1 : Int) + ((3 : Nat) : Int) = 120 * (k : Int) + 5 * h 93 (k : Int) + 3 by omega, zst_eq]
               exact t3
             · rw [show 120 * (k : Int) + 5 * (s.2.1 : Int) + ((4 : Nat) : Int) = 120 * (k : Int) + 5 * h 93 (k : Int) + 4 by omega, zst_eq]
               rfl
           · rw [if_neg e, zst_ne (by omega), zst_ne (by omega), zst_ne (by omega), zst_ne (by omega), zst_ne (by omega)]
             exact p2 j w (by omega) hw)
