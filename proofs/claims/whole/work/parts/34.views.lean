/-! VIEWS: webs, texts -/
/-- a step as it must be -/
def zWS (t : Nat → Int) : Prop := (t 0 = 0 ∧ (0 ≤ t 1 ∧ t 1 < 6) ∧ (0 ≤ t 2 ∧ t 2 < 106) ∧ (0 ≤ t 3 ∧ t 3 < 4) ∧ 0 ≤ t 4 ∧ t 4 < 106) ∨ (t 0 = 1 ∧ t 1 = -4 ∧ (0 ≤ t 2 ∧ t 2 < 106) ∧ t 3 = -4 ∧ t 4 = -4)
/-- a place's end as it must be (2 end, 3 one, 4 two, 5 by) -/
def zWE (n : Nat) (a : Nat → Int) : Prop := (a 2 = 0 ∧ (0 ≤ a 3 ∧ a 3 < (n : Int)) ∧ a 4 = -4 ∧ a 5 = -4) ∨ (a 2 = 1 ∧ (0 ≤ a 3 ∧ a 3 < (n : Int)) ∧ (0 ≤ a 4 ∧ a 4 < (n : Int)) ∧ 0 ≤ a 5 ∧ a 5 < 6) ∨ (a 2 = 2 ∧ a 3 = -4 ∧ a 4 = -4 ∧ a 5 = -4)
/-- a web: places; of a place 1 how many steps, 2 end, 3 one, 4 two, 5 by; parts of a place's steps -/
abbrev zW : Type := Nat × (Nat → Nat → Int) × (Nat → Nat → Nat → Int)
def zWw (W : zW) : Prop := W.1 ≤ 40 ∧ ∀ p, p < W.1 → (0 ≤ W.2.1 p 1 ∧ W.2.1 p 1 ≤ 24) ∧ zWE W.1 (W.2.1 p) ∧ ∀ i : Nat, (i : Int) < W.2.1 p 1 → zWS (W.2.2 p i)
/-- step x of the class's web b has the parts t -/
def zSp (h : zM) (b : Nat) (x : Int) (t : Nat → Int) : Prop := (0 ≤ x ∧ x < h b 8) ∧ zWk h b ∧ ∀ w : Nat, w < 5 → h (b + 7) (x * 5 + (w : Int)) = t w
/-- the class's web b is W -/
def zVw (h : zM) (b : Nat) (W : zW) : Prop := zWk h b ∧ h b 7 = (W.1 : Int) ∧ ∀ p : Nat, p < W.1 → (∀ w : Nat, 0 < w → w < 6 → h (b + 1 + w) (p : Int) = W.2.1 p w) ∧ 0 ≤ h (b + 1) (p : Int) ∧ h (b + 1) (p : Int) + W.2.1 p 1 ≤ h b 8 ∧ ∀ i : Nat, (i : Int) < W.2.1 p 1 → zSp h b (h (b + 1) (p : Int) + (i : Int)) (W.2.2 p i)
theorem zSp.fr {h h2 : zM} {b : Nat} {x : Int} {t : Nat → Int} (hx : zSp h b x t) (e1 : ∀ k, h2 b k = h b k) (e2 : ∀ k, h2 (b + 7) k = h (b + 7) k) : zSp h2 b x t := by
  obtain ⟨a, c, d⟩ := hx
  refine ⟨by rw [e1]; exact a, ?_, fun w hw => by rw [e2]; exact d w hw⟩
  unfold zWk at c ⊢
  rw [e1, e1]
  exact c
theorem zVw.fr {h h2 : zM} {b : Nat} {W : zW} (hv : zVw h b W) (e : ∀ (w : Nat) k, w < 8 → h2 (b + w) k = h (b + w) k) : zVw h2 b W := by
  obtain ⟨a, c, d⟩ := hv
  have e0 : ∀ k, h2 b k = h b k := fun k => e 0 k (by omega)
  refine ⟨?_, by rw [e0]; exact c, fun p hp => ?_⟩
  · unfold zWk at a ⊢
    rw [e0, e0]
    exact a
  · obtain ⟨d1, d2, d4, d3⟩ := d p hp
    have e1 : ∀ k, h2 (b + 1) k = h (b + 1) k := fun k => e 1 k (by omega)
    refine ⟨fun w h0 hw => ?_, by rw [e1]; exact d2, by rw [e1, e0]; exact d4, fun i hi => ?_⟩
    · rw [show b + 1 + w = b + (1 + w) by omega, e (1 + w) _ (by omega), ← show b + 1 + w = b + (1 + w) by omega]
      exact d1 w h0 hw
    · rw [e1]
      exact (d3 i hi).fr e0 (fun k => e 7 k (by omega))
/-- the name of an op -/
def zopn (o : Int) : List Int := if o = 0 then [112, 108, 117, 115] else if o = 1 then [108, 101, 115, 115] else if o = 2 then [115, 97, 109, 101] else [109, 111, 114, 101]
theorem zopn_l (o : Int) : (zopn o).length = 4 := by
  unfold zopn
  split
  · rfl
  · split
    · rfl
    · split <;> rfl
/-- a step's text -/
def zstp (t : Nat → Int) : List Int := if t 0 = 1 then 115 :: 97 :: 121 :: (zop (t 2) ++ [59]) else 115 :: 101 :: 116 :: 32 :: (97 + t 1) :: (zop (t 2) ++ 32 :: (zopn (t 3) ++ (zop (t 4) ++ [59])))
theorem zstp_l (t : Nat → Int) : (zstp t).length ≤ 17 := by
  unfold zstp
  have a := zop_l (t 2)
  have b := zop_l (t 4)
  have c := zopn_l (t 3)
  split <;> simp <;> omega
/-- an end's text -/
def zent (a : Nat → Int) : List Int := if a 2 = 2 then [115, 116, 111, 112, 59] else if a 2 = 0 then 103 :: 111 :: 116 :: 111 :: 32 :: 112 :: (zdg (a 3) ++ [59]) else 105 :: 102 :: 32 :: (97 + a 5) :: 32 :: 112 :: (zdg (a 3) ++ 32 :: 112 :: (zdg (a 4) ++ [59]))
theorem zent_l (a : Nat → Int) : (zent a).length ≤ 13 := by
  unfold zent
  have b := zdg_l (a 3)
  have c := zdg_l (a 4)
  split
  · simp
  · split <;> simp <;> omega
/-- the texts of the first n steps -/
def ztx (T : Nat → Nat → Int) : Nat → List Int
  | 0 => []
  | n + 1 => ztx T n ++ 32 :: zstp (T n)
theorem ztx_l (T : Nat → Nat → Int) : ∀ n, (ztx T n).length ≤ 18 * n
  | 0 => Nat.le_refl _
  | n + 1 => by
    have := ztx_l T n
    have := zstp_l (T n)
    unfold ztx
    simp
    omega
/-- SHOWN of a place -/
def zshw (W : zW) (k : Nat) : List Int := 112 :: (zdg (k : Int) ++ 58 :: (ztx (W.2.2 k) (W.2.1 k 1).toNat ++ 32 :: zent (W.2.1 k)))
theorem zshw_l {W : zW} {k : Nat} (hw : zWw W) (hk : k < W.1) : (zshw W k).length ≤ 450 := by
  unfold zshw
  have a := zdg_l (k : Int)
  have b := ztx_l (W.2.2 k) (W.2.1 k 1).toNat
  have c := zent_l (W.2.1 k)
  have d := (hw.2 k hk).1
  simp
  omega
theorem s_141e {b : Nat} (hb : zLb b) {s : List Int} {h : zM} (hs : zLt h b s) {i : Nat} (hi : i < 13) {l : List Int} (hw : zwd i = l) {Q : zQ} (hl : s.length + l.length ≤ 512) (hq : ∀ h2, zF (zLf b) h h2 → zLt h2 b (s ++ l) → Q none h2) : zR 141 [.inr (.inr b), .inr (.inr (1000 + i))] h Q := by
  subst hw
  exact s_141 hb hs hi hl hq
theorem s_48e {o : Int} {h : zM} {Q : zQ} (hq : ∀ i, i < 13 → zwd i = zopn o → Q (some (.inr (.inr (1000 + i)))) h) : zR 48 [.inl o] h Q := by
  refine s_48 ?_
  by_cases h0 : o = 0
  · rw [if_pos h0]
    exact hq 3 (by omega) (by rw [zopn, if_pos h0]; decide +kernel)
  · rw [if_neg h0]
    by_cases h1 : o = 1
    · rw [if_pos h1]
      exact hq 4 (by omega) (by rw [zopn, if_neg h0, if_pos h1]; decide +kernel)
    · rw [if_neg h1]
      by_cases h2 : o = 2
      · rw [if_pos h2]
        exact hq 5 (by omega) (by rw [zopn, if_neg h0, if_neg h1, if_pos h2]; decide +kernel)
      · rw [if_neg h2]
        exact hq 6 (by omega) (by rw [zopn, if_neg h0, if_neg h1, if_neg h2]; decide +kernel)
theorem s_199t {b : Nat} (hb : zWb b) {x : Int} {t : Nat → Int} {h : zM} (hx : zSp h b x t) (w : Nat) (hw : w < 5) {Q : zQ} (hq : Q (some (.inl (t w))) h) : zR 199 [.inr (.inr b), .inl x, .inl (w : Int)] h Q := by
  refine s_199 hb hx.2.1 (fun _ => ?_) (fun c => absurd ⟨hx.1, by omega, by omega⟩ c)
  rw [hx.2.2 w hw]
  exact hq
theorem s_197t {b : Nat} (hb : zWb b) {W : zW} {h : zM} (hv : zVw h b W) {p : Nat} (hp : p < W.1) (w : Nat) (h0 : 0 < w) (hw : w < 6) {Q : zQ} (hq : Q (some (.inl (W.2.1 p w))) h) : zR 197 [.inr (.inr b), .inl (p : Int), .inl (w : Int)] h Q := by
  have e := (hv.2.2 p hp).1 w h0 hw
  have e7 := hv.2.1
  refine s_197 hb hv.1.1.2 (fun _ => ?_) (fun c => absurd ⟨⟨by omega, by omega⟩, by omega, by omega⟩ c)
  rw [Int.toNat_natCast, e]
  exact hq
set_option maxHeartbeats 4000000 in
set_option maxRecDepth 100000 in
/-- Letters.addStep -/
theorem s_147 {b : Nat} (hb : zLb b) {s : List Int} {h : zM} (hs : zLt h b s) {x : Int} {t : Nat → Int} (hx : zSp h 36 x t) (ht : zWS t) {Q : zQ} (hl : s.length + 17 ≤ 512) (hq : ∀ h2, zF (zLf b) h h2 → zLt h2 b (s ++ zstp t) → Q none h2) : zR 147 [.inr (.inr b), .inr (.inr 36), .inl x] h Q := by
  have o2 := zop_l (t 2)
  have o4 := zop_l (t 4)
  have o3 := zopn_l (t 3)
  unfold zWS at ht
  have hF : zF (zLf b) h h := zF.rf
  rcases hb with rfl | rfl
  all_goals
    refine zx_met0 zk_147 (Or.inr ⟨_, _, rfl, rfl⟩) (Nat.le_of_ble_eq_true rfl) 1000 (fun hok hM => ?_)
    refine s_199t (Or.inr (Or.inr (Or.inr (Or.inr rfl)))) hx 0 (by omega) ?_
    constructor
    · intro c1
      refine s_141e (by first | exact Or.inl rfl | exact Or.inr rfl) hs (i := 2) (l := [115, 97, 121]) (by omega) (by decide +kernel) (by (try simp only [List.length_append, List.length_cons, List.length_nil]); omega) (fun _ hG hs => ?_)
      replace hF := hF.tr hG
      replace hx := hx.fr (fun _ => hG _ _ rfl) (fun _ => hG _ _ rfl)
      refine s_199t (Or.inr (Or.inr (Or.inr (Or.inr rfl)))) hx 2 (by omega) ?_
      refine s_143 (by first | exact Or.inl rfl | exact Or.inr rfl) hs (by (try simp only [List.length_append, List.length_cons, List.length_nil]); omega) (by omega) (fun _ hG hs => ?_)
      replace hF := hF.tr hG
      replace hx := hx.fr (fun _ => hG _ _ rfl) (fun _ => hG _ _ rfl)
      refine s_140 (by first | exact Or.inl rfl | exact Or.inr rfl) hs (by (try simp only [List.length_append, List.length_cons, List.length_nil]); omega) (by omega) (fun _ hG hs => ?_)
      replace hF := hF.tr hG
      replace hx := hx.fr (fun _ => hG _ _ rfl) (fun _ => hG _ _ rfl)
      refine hq _ hF ?_
      first
      | (rw [zstp, if_pos (by assumption)]; simpa using hs)
      | (rw [zstp, if_neg (by assumption)]; simpa using hs)
    · intro c1
      refine s_141e (by first | exact Or.inl rfl | exact Or.inr rfl) hs (i := 10) (l := [115, 101, 116, 32]) (by omega) (by decide +kernel) (by (try simp only [List.length_append, List.length_cons, List.length_nil]); omega) (fun _ hG hs => ?_)
      replace hF := hF.tr hG
      replace hx := hx.fr (fun _ => hG _ _ rfl) (fun _ => hG _ _ rfl)
      refine s_199t (Or.inr (Or.inr (Or.inr (Or.inr rfl)))) hx 1 (by omega) ?_
      refine And.intro (by omega) ?_
      refine s_140 (by first | exact Or.inl rfl | exact Or.inr rfl) hs (by (try simp only [List.length_append, List.length_cons, List.length_nil]); omega) (by omega) (fun _ hG hs => ?_)
      replace hF := hF.tr hG
      replace hx := hx.fr (fun _ => hG _ _ rfl) (fun _ => hG _ _ rfl)
      refine s_199t (Or.inr (Or.inr (Or.inr (Or.inr rfl)))) hx 2 (by omega) ?_
      refine s_143 (by first | exact Or.inl rfl | exact Or.inr rfl) hs (by (try simp only [List.length_append, List.length_cons, List.length_nil]); omega) (by omega) (fun _ hG hs => ?_)
      replace hF := hF.tr hG
      replace hx := hx.fr (fun _ => hG _ _ rfl) (fun _ => hG _ _ rfl)
      refine s_140 (by first | exact Or.inl rfl | exact Or.inr rfl) hs (by (try simp only [List.length_append, List.length_cons, List.length_nil]); omega) (by omega) (fun _ hG hs => ?_)
      replace hF := hF.tr hG
      replace hx := hx.fr (fun _ => hG _ _ rfl) (fun _ => hG _ _ rfl)
      refine s_199t (Or.inr (Or.inr (Or.inr (Or.inr rfl)))) hx 3 (by omega) ?_
      refine s_48e (fun i hi hw => ?_)
      refine s_141e (by first | exact Or.inl rfl | exact Or.inr rfl) hs hi hw (by (try simp only [List.length_append, List.length_cons, List.length_nil]); omega) (fun _ hG hs => ?_)
      replace hF := hF.tr hG
      replace hx := hx.fr (fun _ => hG _ _ rfl) (fun _ => hG _ _ rfl)
      refine s_199t (Or.inr (Or.inr (Or.inr (Or.inr rfl)))) hx 4 (by omega) ?_
      refine s_143 (by first | exact Or.inl rfl | exact Or.inr rfl) hs (by (try simp only [List.length_append, List.length_cons, List.length_nil]); omega) (by omega) (fun _ hG hs => ?_)
      replace hF := hF.tr hG
      replace hx := hx.fr (fun _ => hG _ _ rfl) (fun _ => hG _ _ rfl)
      refine s_140 (by first | exact Or.inl rfl | exact Or.inr rfl) hs (by (try simp only [List.length_append, List.length_cons, List.length_nil]); omega) (by omega) (fun _ hG hs => ?_)
      replace hF := hF.tr hG
      replace hx := hx.fr (fun _ => hG _ _ rfl) (fun _ => hG _ _ rfl)
      refine hq _ hF ?_
      first
      | (rw [zstp, if_pos (by assumption)]; simpa using hs)
      | (rw [zstp, if_neg (by assumption)]; simpa using hs)
