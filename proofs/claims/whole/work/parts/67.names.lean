/-! The reference's reader: names -/
theorem zwq_u {n : Nat} {t : Nat → Int} {k : zTk} {l m : List Int} (h1 : zwq n t k l) (h2 : zwq n t k m) : l = m := by
  have hl : l.length = m.length := by
    have := h1.2.1
    have := h2.2.1
    omega
  apply List.ext_getElem hl
  intro i a b
  have e1 := h1.2.2 i a
  have e2 := h2.2.2 i b
  rw [e1] at e2
  simpa [List.getD, a, b] using e2
/-- the name at a token: v its number, or -4 -/
def zNh (n : Nat) (t : Nat → Int) (k : zTk) (v : Int) : Prop := (∃ w : Nat, v = (w : Int) ∧ w < 10 ∧ zwq n t k (zpw w)) ∨ (v = -4 ∧ ∀ w, w < 10 → ¬ zwq n t k (zpw w))
set_option maxHeartbeats 4000000 in
set_option maxRecDepth 100000 in
/-- M.nameHere -/
theorem s_55 {h : zM} {n : Nat} {t : Nat → Int} (ht : zTq h n t) (hc : zWc h) {k : zTk} (h7 : h 81 7 = (k.1 : Int)) (h6 : h 81 6 = (k.2.1 : Int)) (h8 : h 81 8 = k.2.2.1) (b7 : k.1 ≤ 320) (b6 : k.2.1 ≤ 320) {Q : zQ} (hq : ∀ v, zNh n t k v → Q (some (.inl v)) h) : zR 55 [.inr (.inr 81)] h Q := by
  refine zx_met zk_55 (Or.inr ⟨_, _, rfl, rfl⟩) (Nat.le_of_ble_eq_true rfl) (fun _ => false) 1000 (fun m j L S h2 => (j = 2 ∧ S = [] ∧ h2 = h ∧ ∃ (w7 : Nat) (q2 q3 : Option zV), L = [some (.inr (.inr 81)), some (.inl (w7 : Int)), q2, q3] ∧ w7 ≤ 10 ∧ m = (10 - w7) * 100 + 50 ∧ ∀ w, w < w7 → ¬ zwq n t k (zpw w)) ∨
    (j = 32 ∧ S = [] ∧ h2 = h ∧ ∃ (w7 a7 : Nat) (e7 : Int), L = [some (.inr (.inr 81)), some (.inl (w7 : Int)), some (.inl e7), some (.inl (a7 : Int))] ∧ w7 < 10 ∧ k.2.2.1 = 1 ∧ m = (10 - w7) * 100 + 40 - a7 ∧ a7 ≤ 6 ∧ (∀ w, w < w7 → ¬ zwq n t k (zpw w)) ∧ (e7 = 1 ∧ k.2.1 = k.1 + (zpw w7).length ∧ a7 ≤ (zpw w7).length ∧ (∀ a, a < a7 → zbt n t (k.1 + a) = (zpw w7).getD a 0) ∨ e7 = 0 ∧ ¬ zwq n t k (zpw w7)))) (fun hok hM => ?_) (fun hok hM => ?_)
  · exact ⟨_, Or.inl ⟨rfl, rfl, rfl, 0, _, _, rfl, by omega, rfl, fun w hw => by omega⟩⟩
  · rintro n0 i0 L S h2 hM2 (hI | hI)
    · obtain ⟨rfl, rfl, rfl, w7, q2, q3, rfl, hw7, hm, hno⟩ := hI
      constructor
      · intro c1
        constructor
        · intro c2
          have wl := zpw_l w7 (by omega)
          have w0 := hc.1 w7 (by omega)
          have w1 : h2 84 ((w7 : Int) + 1) = _ := hc.1 (w7 + 1) (by omega)
          refine And.intro (by omega) ?_
          refine And.intro (by omega) ?_
          refine And.intro (by first | (show 0 ≤ _ ∧ _ < (11 : Int); omega) | (show 0 ≤ _ ∧ _ < (37 : Int); omega)) ?_
          refine And.intro (by first | (show 0 ≤ _ ∧ _ < (11 : Int); omega) | (show 0 ≤ _ ∧ _ < (37 : Int); omega)) ?_
          refine And.intro (by omega) ?_
          constructor
          · intro c3
            first
            | (refine ⟨(10 - w7) * 100 + 40 - 0, by omega, Or.inr ⟨rfl, rfl, rfl, w7, 0, _, rfl, by omega, by omega, rfl, by omega, hno, ?_⟩⟩
               first
               | (left; exact ⟨rfl, by omega, by omega, fun a ha => by omega⟩)
               | (right
                  refine ⟨rfl, fun q => ?_⟩
                  have := q.2.1
                  omega))
            | (refine ⟨(10 - w7) * 100 + 40 - (a7 + 1), by omega, Or.inr ⟨rfl, rfl, rfl, w7, a7 + 1, _, rfl, by omega, by omega, rfl, by omega, hno, ?_⟩⟩
               first
               | (left
                  refine ⟨rfl, y1, by omega, fun a ha => ?_⟩
                  by_cases e : a = a7
                  · rw [e]; assumption
                  · exact y3 a (by omega))
               | (right
                  refine ⟨rfl, fun q => ?_⟩
                  exact absurd (q.2.2 a7 (by omega)) (by assumption)))
          · intro c3
            first
            | (refine ⟨(10 - w7) * 100 + 40 - 0, by omega, Or.inr ⟨rfl, rfl, rfl, w7, 0, _, rfl, by omega, by omega, rfl, by omega, hno, ?_⟩⟩
               first
               | (left; exact ⟨rfl, by omega, by omega, fun a ha => by omega⟩)
               | (right
                  refine ⟨rfl, fun q => ?_⟩
                  have := q.2.1
                  omega))
            | (refine ⟨(10 - w7) * 100 + 40 - (a7 + 1), by omega, Or.inr ⟨rfl, rfl, rfl, w7, a7 + 1, _, rfl, by omega, by omega, rfl, by omega, hno, ?_⟩⟩
               first
               | (left
                  refine ⟨rfl, y1, by omega, fun a ha => ?_⟩
                  by_cases e : a = a7
                  · rw [e]; assumption
                  · exact y3 a (by omega))
               | (right
                  refine ⟨rfl, fun q => ?_⟩
                  exact absurd (q.2.2 a7 (by omega)) (by assumption)))
        · intro c2
          first
          | (have he2 := he.resolve_right (fun q => by have := q.1; omega)
             obtain ⟨-, y1, y2, y3⟩ := he2
             exact hq _ (Or.inl ⟨w7, rfl, hw7, s1, y1, fun a ha => y3 a (by omega)⟩))
          | (refine hq _ (Or.inr ⟨rfl, fun w hw q => ?_⟩)
             first
             | exact hno w (by omega) q
             | (have := q.1
                omega))
      · intro c1
        first
        | (have he2 := he.resolve_right (fun q => by have := q.1; omega)
           obtain ⟨-, y1, y2, y3⟩ := he2
           exact hq _ (Or.inl ⟨w7, rfl, hw7, s1, y1, fun a ha => y3 a (by omega)⟩))
        | (refine hq _ (Or.inr ⟨rfl, fun w hw q => ?_⟩)
           first
           | exact hno w (by omega) q
           | (have := q.1
              omega))
    · obtain ⟨rfl, rfl, rfl, w7, a7, e7, rfl, hw7, s1, hm, ha6, hno, he⟩ := hI
      have he01 : e7 = 1 ∨ e7 = 0 := he.imp And.left And.left
      have wl := zpw_l w7 hw7
      have wc := zpw_c w7 hw7
      have w0 := hc.1 w7 (by omega)
      constructor
      · intro c4
        constructor
        · intro c5
          refine And.intro (by omega) ?_
          have hz : ¬ zwq n t k (zpw w7) := by
            rcases he with q | q
            · have := q.1
              omega
            · exact q.2
          refine ⟨(10 - (w7 + 1)) * 100 + 50, by omega, Or.inl ⟨rfl, rfl, rfl, w7 + 1, _, _, rfl, by omega, rfl, fun w hw => ?_⟩⟩
          by_cases e : w = w7
          · rw [e]; exact hz
          · exact hno w (by omega)
        · intro c5
          first
          | (have he2 := he.resolve_right (fun q => by have := q.1; omega)
             obtain ⟨-, y1, y2, y3⟩ := he2
             exact hq _ (Or.inl ⟨w7, rfl, hw7, s1, y1, fun a ha => y3 a (by omega)⟩))
          | (refine hq _ (Or.inr ⟨rfl, fun w hw q => ?_⟩)
             first
             | exact hno w (by omega) q
             | (have := q.1
                omega))
      · intro c4
        refine And.intro (by omega) ?_
        constructor
        · intro c6
          have he2 := he.resolve_right (fun q => by have := q.1; omega)
          obtain ⟨-, y1, y2, y3⟩ := he2
          refine And.intro (by omega) ?_
          refine s_53t ht (p := k.1 + a7) (by omega) ?_
          refine And.intro (by first | (show 0 ≤ _ ∧ _ < (11 : Int); omega) | (show 0 ≤ _ ∧ _ < (37 : Int); omega)) ?_
          refine And.intro (by omega) ?_
          refine And.intro (by first | (show 0 ≤ _ ∧ _ < (11 : Int); omega) | (show 0 ≤ _ ∧ _ < (37 : Int); omega)) ?_
          constructor
          · intro c7
            have c7x := hc.2 ((zends.getD w7 0).toNat + a7) (by omega)
            rw [← wc a7 (by omega), show ((((zends.getD w7 0).toNat + a7 : Nat)) : Int) = h2 84 (w7 : Int) + (a7 : Int) by omega] at c7x
            rw [c7x] at c7
            refine And.intro (by omega) ?_
            first
            | (refine ⟨(10 - w7) * 100 + 40 - 0, by omega, Or.inr ⟨rfl, rfl, rfl, w7, 0, _, rfl, by omega, by omega, rfl, by omega, hno, ?_⟩⟩
               first
               | (left; exact ⟨rfl, by omega, by omega, fun a ha => by omega⟩)
               | (right
                  refine ⟨rfl, fun q => ?_⟩
                  have := q.2.1
                  omega))
            | (refine ⟨(10 - w7) * 100 + 40 - (a7 + 1), by omega, Or.inr ⟨rfl, rfl, rfl, w7, a7 + 1, _, rfl, by omega, by omega, rfl, by omega, hno, ?_⟩⟩
               first
               | (left
                  refine ⟨rfl, y1, by omega, fun a ha => ?_⟩
                  by_cases e : a = a7
                  · rw [e]; assumption
                  · exact y3 a (by omega))
               | (right
                  refine ⟨rfl, fun q => ?_⟩
                  exact absurd (q.2.2 a7 (by omega)) (by assumption)))
          · intro c7
            have c7x := hc.2 ((zends.getD w7 0).toNat + a7) (by omega)
            rw [← wc a7 (by omega), show ((((zends.getD w7 0).toNat + a7 : Nat)) : Int) = h2 84 (w7 : Int) + (a7 : Int) by omega] at c7x
            rw [c7x] at c7
            refine And.intro (by omega) ?_
            first
            | (refine ⟨(10 - w7) * 100 + 40 - 0, by omega, Or.inr ⟨rfl, rfl, rfl, w7, 0, _, rfl, by omega, by omega, rfl, by omega, hno, ?_⟩⟩
               first
               | (left; exact ⟨rfl, by omega, by omega, fun a ha => by omega⟩)
               | (right
                  refine ⟨rfl, fun q => ?_⟩
                  have := q.2.1
                  omega))
            | (refine ⟨(10 - w7) * 100 + 40 - (a7 + 1), by omega, Or.inr ⟨rfl, rfl, rfl, w7, a7 + 1, _, rfl, by omega, by omega, rfl, by omega, hno, ?_⟩⟩
               first
               | (left
                  refine ⟨rfl, y1, by omega, fun a ha => ?_⟩
                  by_cases e : a = a7
                  · rw [e]; assumption
                  · exact y3 a (by omega))
               | (right
                  refine ⟨rfl, fun q => ?_⟩
                  exact absurd (q.2.2 a7 (by omega)) (by assumption)))
        · intro c6
          constructor
          · intro c8
            refine And.intro (by omega) ?_
            have hz : ¬ zwq n t k (zpw w7) := by
              rcases he with q | q
              · have := q.1
                omega
              · exact q.2
            refine ⟨(10 - (w7 + 1)) * 100 + 50, by omega, Or.inl ⟨rfl, rfl, rfl, w7 + 1, _, _, rfl, by omega, rfl, fun w hw => ?_⟩⟩
            by_cases e : w = w7
            · rw [e]; exact hz
            · exact hno w (by omega)
          · intro c8
            first
            | (have he2 := he.resolve_right (fun q => by have := q.1; omega)
               obtain ⟨-, y1, y2, y3⟩ := he2
               exact hq _ (Or.inl ⟨w7, rfl, hw7, s1, y1, fun a ha => y3 a (by omega)⟩))
            | (refine hq _ (Or.inr ⟨rfl, fun w hw q => ?_⟩)
               first
               | exact hno w (by omega) q
               | (have := q.1
                  omega))
/-- the name where the reader stands; where it is broken, any -/
theorem s_55x {h : zM} {n : Nat} {t : Nat → Int} (ht : zTq h n t) (hc : zWc h) {x : (Int × Nat) ⊕ zTk} (hs : zMs h n x) {Q : zQ} (hq : ∀ v, (∀ k, x = .inr k → zNh n t k v) → (-4 ≤ v ∧ v < 10) → Q (some (.inl v)) h) : zR 55 [.inr (.inr 81)] h Q := by
  have n320 := ht.2.1
  have hb : (0 ≤ h 81 7 ∧ h 81 7 ≤ 320) ∧ 0 ≤ h 81 6 ∧ h 81 6 ≤ 320 := by
    cases x with
    | inl e => exact (hs.1 e rfl).2.2.2
    | inr k =>
      obtain ⟨h4, hk, hb⟩ := hs.2 k rfl
      have a := hk.1
      have b := hk.2.1
      have c := hb.1
      have d := hb.2.1
      omega
  refine s_55 ht hc (k := ((h 81 7).toNat, (h 81 6).toNat, h 81 8, 0)) (by show h 81 7 = (((h 81 7).toNat : Nat) : Int); omega) (by show h 81 6 = (((h 81 6).toNat : Nat) : Int); omega) rfl (by show (h 81 7).toNat ≤ 320; omega) (by show (h 81 6).toNat ≤ 320; omega) (fun v hv => ?_)
  refine hq v (fun k q => ?_) ?_
  · subst q
    obtain ⟨h4, hk, hb⟩ := hs.2 k rfl
    have e : ∀ l, zwq n t ((h 81 7).toNat, (h 81 6).toNat, h 81 8, 0) l → zwq n t k l := by
      intro l hl
      have a : (h 81 7).toNat = k.1 := by have := hk.1; omega
      have b : (h 81 6).toNat = k.2.1 := by have := hk.2.1; omega
      obtain ⟨l1, l2, l3⟩ := hl
      refine ⟨hk.2.2.1.symm.trans l1, ?_, ?_⟩
      · rw [← a, ← b]; exact l2
      · rw [← a]; exact l3
    have e2 : ∀ l, zwq n t k l → zwq n t ((h 81 7).toNat, (h 81 6).toNat, h 81 8, 0) l := by
      intro l hl
      have a : (h 81 7).toNat = k.1 := by have := hk.1; omega
      have b : (h 81 6).toNat = k.2.1 := by have := hk.2.1; omega
      obtain ⟨l1, l2, l3⟩ := hl
      refine ⟨hk.2.2.1.trans l1, ?_, ?_⟩
      · show (h 81 6).toNat = (h 81 7).toNat + l.length
        rw [a, b]; exact l2
      · show ∀ a : Nat, a < l.length → zbt n t ((h 81 7).toNat + a) = l.getD a 0
        rw [a]; exact l3
    rcases hv with ⟨w, a, b, c⟩ | ⟨a, b⟩
    · exact Or.inl ⟨w, a, b, e _ c⟩
    · exact Or.inr ⟨a, fun w hw q => b w hw (e2 _ q)⟩
  · rcases hv with ⟨w, a, b, c⟩ | ⟨a, b⟩ <;> omega
