/-! The reference's reader: tokens -/
def zTm (h : zM) (k : zTk) : Prop := h 81 7 = (k.1 : Int) ∧ h 81 6 = (k.2.1 : Int) ∧ h 81 8 = k.2.2.1 ∧ (k.2.2.1 = 2 → h 81 9 = k.2.2.2)
/-- the reference's reader stands at a token, or is broken -/
def zMs (h : zM) (n : Nat) (x : (Int × Nat) ⊕ zTk) : Prop := (∀ e, x = .inl e → h 81 4 = e.1 ∧ 0 < e.1 ∧ h 81 5 = (e.2 : Int) ∧ (0 ≤ h 81 7 ∧ h 81 7 ≤ 320) ∧ 0 ≤ h 81 6 ∧ h 81 6 ≤ 320) ∧ ∀ k, x = .inr k → h 81 4 = 0 ∧ zTm h k ∧ zTb n k
theorem zMs_l {h : zM} {n : Nat} {e : Int × Nat} (h4 : h 81 4 = e.1) (h0 : 0 < e.1) (h5 : h 81 5 = (e.2 : Int)) (h7 : 0 ≤ h 81 7 ∧ h 81 7 ≤ 320) (h6 : 0 ≤ h 81 6 ∧ h 81 6 ≤ 320) : zMs h n (.inl e) := ⟨(fun e2 q => by cases q; exact ⟨h4, h0, h5, h7, h6⟩), (fun k q => by cases q)⟩
theorem zMs_r {h : zM} {n : Nat} {k : zTk} (h4 : h 81 4 = 0) (hk : zTm h k) (hb : zTb n k) : zMs h n (.inr k) := ⟨(fun e q => by cases q), (fun k2 q => by cases q; exact ⟨h4, hk, hb⟩)⟩
def zRm : Nat → Int → Bool := fun r k => Nat.beq r 81 && decide (4 ≤ k) && decide (k ≤ 9)
theorem zTq.fr {h h2 : zM} {n : Nat} {t : Nat → Int} (ht : zTq h n t) (hF : zF zRm h h2) : zTq h2 n t := ⟨(hF _ _ rfl).trans ht.1, ht.2.1, fun i hi => ⟨(hF _ _ rfl).trans (ht.2.2 i hi).1, (ht.2.2 i hi).2⟩⟩
set_option maxHeartbeats 4000000 in
set_option maxRecDepth 100000 in
/-- M.readsOn -/
theorem s_56c {h : zM} {n : Nat} {t : Nat → Int} (ht : zTq h n t) {p : Nat} (hp : p ≤ n) (h4 : h 81 4 = 0) (h6 : h 81 6 = (p : Int)) {Q : zQ} (hq : ∀ h2, zF zRm h h2 → zMs h2 n (ztk n t p) → Q none h2) : zR 56 [.inr (.inr 81)] h Q := by
  have n320 := ht.2.1
  have hby := fun i (hi : i < n) => (ht.2.2 i hi).2
  have hbb := zbt_b hby
  have hgd := zg_tk hby hp
  have hsl := zru_le (f := zbl) (t := t) hp
  obtain ⟨s, hs⟩ : ∃ s, s = zts n t p := ⟨_, rfl⟩
  have hsl : p ≤ s ∧ s ≤ n := by rw [hs]; exact hsl
  obtain ⟨k, hk⟩ : ∃ k, k = zsr (zbt n t s) := ⟨_, rfl⟩
  have hk0 : ¬ zbt n t s = -4 → s < n := fun q => zbt_lt q
  have hzk : ztk n t p = ztk1 n t s := by rw [hs]; rfl
  have hcs := hbb s
  have hk1 : 97 ≤ zbt n t s ∧ zbt n t s ≤ 122 → k = 1 := by
    intro q
    rw [hk, zsr, if_neg (by omega), if_pos q]
  have hk2 : 48 ≤ zbt n t s ∧ zbt n t s ≤ 57 → k = 2 := by
    intro q
    rw [hk, zsr, if_neg (by omega), if_neg (by omega), if_pos q]
  rw [hzk] at hq hgd
  refine zx_met zk_56 (Or.inr ⟨_, _, rfl, rfl⟩) (Nat.le_of_ble_eq_true rfl) (fun x => Nat.beq x 29) 1000 (fun m j L S h2 => (j = 4 ∧ S = [] ∧ ∃ (q7 : Nat) (q1 : Option zV), L = [some (.inr (.inr 81)), q1] ∧ p ≤ q7 ∧ q7 ≤ n ∧ m = 5000 - q7 ∧ zF zRm h h2 ∧ h2 81 4 = 0 ∧ h2 81 6 = (q7 : Int) ∧ zru zbl n t q7 = s) ∨
    (j = 29 ∧ S = [] ∧ L = [some (.inr (.inr 81)), some (.inl (zbt n t s))] ∧ m = 4000 ∧ zF zRm h h2 ∧ h2 81 4 = 0 ∧ h2 81 6 = (s : Int) ∧ h2 81 7 = (s : Int) ∧ h2 81 9 = 0) ∨
    (j = 42 ∧ S = [] ∧ ∃ (q7 : Nat), L = [some (.inr (.inr 81)), some (.inl (zbt n t s))] ∧ k = 1 ∧ s ≤ q7 ∧ q7 ≤ n ∧ m = 3000 - q7 ∧ zF zRm h h2 ∧ h2 81 4 = 0 ∧ h2 81 6 = (q7 : Int) ∧ h2 81 7 = (s : Int) ∧ zru (zss k) n t q7 = zru (zss k) n t s) ∨
    (j = 68 ∧ S = [] ∧ ∃ (q7 : Nat), L = [some (.inr (.inr 81)), some (.inl (zbt n t s))] ∧ k = 2 ∧ s ≤ q7 ∧ q7 ≤ n ∧ m = 2000 - q7 ∧ zF zRm h h2 ∧ h2 81 4 = 0 ∧ h2 81 6 = (q7 : Int) ∧ h2 81 7 = (s : Int) ∧ zru (zss k) n t q7 = zru (zss k) n t s ∧ (q7 = s → h2 81 9 = 0) ∧ (q7 = s + 1 → h2 81 9 = zbt n t s - 48) ∧ (s + 2 ≤ q7 → h2 81 9 = (zbt n t s - 48) * 10 + (zbt n t (s + 1) - 48)) ∧ (s < q7 → 48 ≤ zbt n t s ∧ zbt n t s ≤ 57))) (fun hok hM => ?_) (fun hok hM => ?_)
  · refine And.intro (fun c1 => absurd c1 (by omega)) (fun c1 => ?_)
    exact ⟨_, Or.inl ⟨rfl, rfl, p, _, rfl, by omega, hp, rfl, zF.rf, h4, h6, hs.symm⟩⟩
  · rintro n0 i0 L S h2 hM2 (hI | hI | hI | hI)
    · obtain ⟨rfl, rfl, q7, q1, rfl, hq1, hq2, hm, hF, g4, g6, hz⟩ := hI
      have ht2 := ht.fr hF
      refine s_53t ht2 (p := q7) g6 ?_
      constructor
      · intro c2
        refine And.intro (by first | omega | (simp only [zx_st]; simp; omega)) ?_
        have hbl : zbt n t q7 = 32 := by assumption
        have hlt : q7 < n := zbt_lt (t := t) (by rw [hbl]; decide)
        exact ⟨5000 - (q7 + 1), by omega, Or.inl ⟨rfl, rfl, q7 + 1, _, rfl, by omega, by omega, rfl, hF.st rfl, g4, (zst_eq _ _ _ _).trans (by omega), (zru_t hlt (by unfold zbl; rw [hbl]; rfl)).symm.trans hz⟩⟩
      · intro c2
        have hst : q7 = s := by
          rw [zru_f (by unfold zbl; exact decide_eq_false (by assumption))] at hz; exact hz
        subst hst
        refine s_53t (h := zx_st h2 81 7 (h2 81 6)) (ht2.fr (zF.rf.st rfl)) (p := q7) g6 ?_
        exact ⟨4000, by omega, Or.inr (Or.inl ⟨rfl, rfl, rfl, rfl, (hF.st rfl).st rfl, g4, g6, (zst_ne (by decide)).trans ((zst_eq _ _ _ _).trans g6), zst_eq _ _ _ _⟩)⟩
    · obtain ⟨rfl, rfl, rfl, hm, hF, g4, g6, g7, g9⟩ := hI
      constructor
      · intro c3
        unfold ztk1 at hq hgd
        first
        | (have hk00 : zsr (zbt n t s) = 0 := by rw [zsr, if_pos (by omega)]
           have hte : zte n t s = s := by unfold zte; rw [hk00, if_neg (by omega), if_neg (by omega)]
           rw [hk00, if_neg (by omega), if_neg (by omega), hte] at hq hgd
           exact hq _ (hF.st rfl) (zMs_r g4 ⟨g7, g6, zst_eq _ _ _ _, fun q => by have q : (0 : Int) = 2 := q; omega⟩ (hgd.2 _ rfl)))
        | (have hend : zru (zss k) n t s = q7 := by
             rw [← hz]
             apply zru_f
             unfold zss
             refine decide_eq_false (fun q => a1 ?_)
             rw [k1] at q
             unfold zsr at q
             repeat' split at q
             all_goals omega
           have hte : zte n t s = q7 := by unfold zte; rw [← hk, if_pos (Or.inl k1)]; exact hend
           rw [← hk, if_neg (by omega), if_neg (by omega), hte] at hq hgd
           exact hq _ (hF.st rfl) (zMs_r g4 ⟨g7, g6, (zst_eq _ _ _ _).trans k1.symm, fun q => by have q : k = 2 := q; omega⟩ (hgd.2 _ rfl)))
        | (have hend : zru (zss k) n t s = q7 := by
             rw [← hz]
             apply zru_f
             unfold zss
             refine decide_eq_false (fun q => a1 ?_)
             rw [k2] at q
             unfold zsr at q
             repeat' split at q
             all_goals omega
           have hte : zte n t s = q7 := by unfold zte; rw [← hk, if_pos (Or.inr k2)]; exact hend
           have hsq : s < q7 := by
             rcases Nat.lt_or_ge s q7 with q | q
             · exact q
             · exfalso
               have e : q7 = s := by omega
               subst e
               apply a1
               have q := hk
               rw [k2] at q
               unfold zsr at q
               repeat' split at q
               all_goals omega
           rw [← hk, hte] at hq hgd
           first
           | (rw [if_pos (Or.inr ⟨k2, by omega⟩)] at hq
              refine hq _ (((hF.st rfl).st rfl).st rfl) (zMs_l ?_ (by show (0 : Int) < 1; omega) ?_ ⟨?_, ?_⟩ ⟨?_, ?_⟩)
              · rw [zst_ne (by decide), zst_eq]
              · rw [zst_eq]; exact g7
              · show 0 ≤ h2 81 7; omega
              · show h2 81 7 ≤ 320; omega
              · show 0 ≤ h2 81 6; omega
              · show h2 81 6 ≤ 320; omega)
           | (rw [if_neg (by omega), if_pos k2] at hq hgd
              refine hq _ (hF.st rfl) (zMs_r g4 ⟨g7, g6, (zst_eq _ _ _ _).trans k2.symm, fun q => ?_⟩ (hgd.2 _ rfl))
              show h2 81 9 = ztn (zbt n t) s q7
              unfold ztn
              by_cases e : q7 = s + 1
              · rw [if_pos e]; exact n1 e
              · rw [if_neg e]; exact n2 (by omega)))
        | (have hk34 : zsr (zbt n t s) = 3 := by rw [zsr, if_neg (by omega), if_neg (by omega), if_neg (by omega), if_pos (by omega)]
           have hte : zte n t s = s + 1 := by unfold zte; rw [hk34, if_neg (by omega), if_pos rfl]
           rw [hk34, if_neg (by omega), if_neg (by omega), hte] at hq hgd
           exact hq _ ((hF.st rfl).st rfl) (zMs_r g4 ⟨g7, by rw [zst_eq, zst_ne (by decide), g6]; rfl, by rw [zst_ne (by decide), zst_eq], fun q => by have q : (3 : Int) = 2 := q; omega⟩ (hgd.2 _ rfl)))
        | (have hk34 : zsr (zbt n t s) = 4 := by rw [zsr, if_neg (by omega), if_neg (by omega), if_neg (by omega), if_neg (by omega)]
           have hlt := hk0 (by omega)
           rw [hk34, if_pos (Or.inl rfl)] at hq
           refine hq _ ((((hF.st rfl).st rfl).st rfl).st rfl) (zMs_l ?_ (by show (0 : Int) < 1; omega) ?_ ⟨?_, ?_⟩ ⟨?_, ?_⟩)
           · rw [zst_ne (by decide), zst_eq]
           · rw [zst_eq]; exact g7
           · show 0 ≤ h2 81 7; omega
           · show h2 81 7 ≤ 320; omega
           · show 0 ≤ h2 81 6 + 1; omega
           · show h2 81 6 + 1 ≤ 320; omega)
      · intro c3
        refine s_50 (fun a1 => ?_) (fun a1 => ?_)
        · refine And.intro (fun c => absurd c (by decide)) (fun _ => ?_)
          first
          | (exact ⟨3000 - s, by omega, Or.inr (Or.inr (Or.inl ⟨rfl, rfl, s, rfl, hk1 a1, by omega, by omega, rfl, hF, g4, g6, g7, rfl⟩))⟩)
          | (have hlt : q7 < n := zbt_lt (t := t) (by omega)
             have hzs : zsr (zbt n t q7) = k := by rw [k1, zsr, if_neg (by omega), if_pos a1]
             exact ⟨3000 - (q7 + 1), by omega, Or.inr (Or.inr (Or.inl ⟨rfl, rfl, q7 + 1, rfl, k1, by omega, by omega, rfl, hF.st rfl, g4, (zst_eq _ _ _ _).trans (by omega), g7, (zru_t hlt (by unfold zss; exact decide_eq_true hzs)).symm.trans hz⟩))⟩)
        · refine And.intro (fun _ => ?_) (fun c => absurd (by decide) c)
          refine s_50 (fun a2 => ?_) (fun a2 => ?_)
          · refine And.intro (fun c => absurd c (by decide)) (fun _ => ?_)
            first
            | (exact ⟨2000 - s, by omega, Or.inr (Or.inr (Or.inr ⟨rfl, rfl, s, rfl, hk2 a2, by omega, by omega, rfl, hF, g4, g6, g7, rfl, fun _ => g9, fun q => by omega, fun q => by omega, fun q => by omega⟩))⟩)
            | (have hlt : q7 < n := zbt_lt (t := t) (by omega)
               have hzs : zsr (zbt n t q7) = k := by rw [k2, zsr, if_neg (by omega), if_neg (by omega), if_pos a1]
               refine ⟨2000 - (q7 + 1), by omega, Or.inr (Or.inr (Or.inr ⟨rfl, rfl, q7 + 1, rfl, k2, by omega, by omega, rfl, (hF.st rfl).st rfl, g4, ?_, g7, (zru_t hlt (by unfold zss; exact decide_eq_true hzs)).symm.trans hz, fun q => by omega, fun q => ?_, fun q => ?_, fun q => ?_⟩))⟩
               · rw [zst_eq, zst_ne (by decide), g6]; rfl
               · have e : q7 = s := by omega
                 subst e
                 have := n0 rfl
                 rw [zst_ne (by decide), zst_eq]
                 omega
               · rw [zst_ne (by decide), zst_eq]
                 by_cases e : q7 = s + 1
                 · subst e
                   have := n1 rfl
                   omega
                 · have := n2 (by omega)
                   omega
               · by_cases e : q7 = s
                 · subst e; exact a1
                 · exact n3 (by omega))
          · refine And.intro (fun _ => ?_) (fun c => absurd (by decide) c)
            refine And.intro (by first | omega | (simp only [zx_st]; simp; omega)) ?_
            constructor
            · intro c4
              unfold ztk1 at hq hgd
              first
              | (have hk00 : zsr (zbt n t s) = 0 := by rw [zsr, if_pos (by omega)]
                 have hte : zte n t s = s := by unfold zte; rw [hk00, if_neg (by omega), if_neg (by omega)]
                 rw [hk00, if_neg (by omega), if_neg (by omega), hte] at hq hgd
                 exact hq _ (hF.st rfl) (zMs_r g4 ⟨g7, g6, zst_eq _ _ _ _, fun q => by have q : (0 : Int) = 2 := q; omega⟩ (hgd.2 _ rfl)))
              | (have hend : zru (zss k) n t s = q7 := by
                   rw [← hz]
                   apply zru_f
                   unfold zss
                   refine decide_eq_false (fun q => a1 ?_)
                   rw [k1] at q
                   unfold zsr at q
                   repeat' split at q
                   all_goals omega
                 have hte : zte n t s = q7 := by unfold zte; rw [← hk, if_pos (Or.inl k1)]; exact hend
                 rw [← hk, if_neg (by omega), if_neg (by omega), hte] at hq hgd
                 exact hq _ (hF.st rfl) (zMs_r g4 ⟨g7, g6, (zst_eq _ _ _ _).trans k1.symm, fun q => by have q : k = 2 := q; omega⟩ (hgd.2 _ rfl)))
              | (have hend : zru (zss k) n t s = q7 := by
                   rw [← hz]
                   apply zru_f
                   unfold zss
                   refine decide_eq_false (fun q => a1 ?_)
                   rw [k2] at q
                   unfold zsr at q
                   repeat' split at q
                   all_goals omega
                 have hte : zte n t s = q7 := by unfold zte; rw [← hk, if_pos (Or.inr k2)]; exact hend
                 have hsq : s < q7 := by
                   rcases Nat.lt_or_ge s q7 with q | q
                   · exact q
                   · exfalso
                     have e : q7 = s := by omega
                     subst e
                     apply a1
                     have q := hk
                     rw [k2] at q
                     unfold zsr at q
                     repeat' split at q
                     all_goals omega
                 rw [← hk, hte] at hq hgd
                 first
                 | (rw [if_pos (Or.inr ⟨k2, by omega⟩)] at hq
                    refine hq _ (((hF.st rfl).st rfl).st rfl) (zMs_l ?_ (by show (0 : Int) < 1; omega) ?_ ⟨?_, ?_⟩ ⟨?_, ?_⟩)
                    · rw [zst_ne (by decide), zst_eq]
                    · rw [zst_eq]; exact g7
                    · show 0 ≤ h2 81 7; omega
                    · show h2 81 7 ≤ 320; omega
                    · show 0 ≤ h2 81 6; omega
                    · show h2 81 6 ≤ 320; omega)
                 | (rw [if_neg (by omega), if_pos k2] at hq hgd
                    refine hq _ (hF.st rfl) (zMs_r g4 ⟨g7, g6, (zst_eq _ _ _ _).trans k2.symm, fun q => ?_⟩ (hgd.2 _ rfl))
                    show h2 81 9 = ztn (zbt n t) s q7
                    unfold ztn
                    by_cases e : q7 = s + 1
                    · rw [if_pos e]; exact n1 e
                    · rw [if_neg e]; exact n2 (by omega)))
              | (have hk34 : zsr (zbt n t s) = 3 := by rw [zsr, if_neg (by omega), if_neg (by omega), if_neg (by omega), if_pos (by omega)]
                 have hte : zte n t s = s + 1 := by unfold zte; rw [hk34, if_neg (by omega), if_pos rfl]
                 rw [hk34, if_neg (by omega), if_neg (by omega), hte] at hq hgd
                 exact hq _ ((hF.st rfl).st rfl) (zMs_r g4 ⟨g7, by rw [zst_eq, zst_ne (by decide), g6]; rfl, by rw [zst_ne (by decide), zst_eq], fun q => by have q : (3 : Int) = 2 := q; omega⟩ (hgd.2 _ rfl)))
              | (have hk34 : zsr (zbt n t s) = 4 := by rw [zsr, if_neg (by omega), if_neg (by omega), if_neg (by omega), if_neg (by omega)]
                 have hlt := hk0 (by omega)
                 rw [hk34, if_pos (Or.inl rfl)] at hq
                 refine hq _ ((((hF.st rfl).st rfl).st rfl).st rfl) (zMs_l ?_ (by show (0 : Int) < 1; omega) ?_ ⟨?_, ?_⟩ ⟨?_, ?_⟩)
                 · rw [zst_ne (by decide), zst_eq]
                 · rw [zst_eq]; exact g7
                 · show 0 ≤ h2 81 7; omega
                 · show h2 81 7 ≤ 320; omega
                 · show 0 ≤ h2 81 6 + 1; omega
                 · show h2 81 6 + 1 ≤ 320; omega)
            · intro c4
              refine s_54 (fun a5 => ?_) (fun a5 => absurd g4 a5)
              unfold ztk1 at hq hgd
              first
              | (have hk00 : zsr (zbt n t s) = 0 := by rw [zsr, if_pos (by omega)]
                 have hte : zte n t s = s := by unfold zte; rw [hk00, if_neg (by omega), if_neg (by omega)]
                 rw [hk00, if_neg (by omega), if_neg (by omega), hte] at hq hgd
                 exact hq _ (hF.st rfl) (zMs_r g4 ⟨g7, g6, zst_eq _ _ _ _, fun q => by have q : (0 : Int) = 2 := q; omega⟩ (hgd.2 _ rfl)))
              | (have hend : zru (zss k) n t s = q7 := by
                   rw [← hz]
                   apply zru_f
                   unfold zss
                   refine decide_eq_false (fun q => a1 ?_)
                   rw [k1] at q
                   unfold zsr at q
                   repeat' split at q
                   all_goals omega
                 have hte : zte n t s = q7 := by unfold zte; rw [← hk, if_pos (Or.inl k1)]; exact hend
                 rw [← hk, if_neg (by omega), if_neg (by omega), hte] at hq hgd
                 exact hq _ (hF.st rfl) (zMs_r g4 ⟨g7, g6, (zst_eq _ _ _ _).trans k1.symm, fun q => by have q : k = 2 := q; omega⟩ (hgd.2 _ rfl)))
              | (have hend : zru (zss k) n t s = q7 := by
                   rw [← hz]
                   apply zru_f
                   unfold zss
                   refine decide_eq_false (fun q => a1 ?_)
                   rw [k2] at q
                   unfold zsr at q
                   repeat' split at q
                   all_goals omega
                 have hte : zte n t s = q7 := by unfold zte; rw [← hk, if_pos (Or.inr k2)]; exact hend
                 have hsq : s < q7 := by
                   rcases Nat.lt_or_ge s q7 with q | q
                   · exact q
                   · exfalso
                     have e : q7 = s := by omega
                     subst e
                     apply a1
                     have q := hk
                     rw [k2] at q
                     unfold zsr at q
                     repeat' split at q
                     all_goals omega
                 rw [← hk, hte] at hq hgd
                 first
                 | (rw [if_pos (Or.inr ⟨k2, by omega⟩)] at hq
                    refine hq _ (((hF.st rfl).st rfl).st rfl) (zMs_l ?_ (by show (0 : Int) < 1; omega) ?_ ⟨?_, ?_⟩ ⟨?_, ?_⟩)
                    · rw [zst_ne (by decide), zst_eq]
                    · rw [zst_eq]; exact g7
                    · show 0 ≤ h2 81 7; omega
                    · show h2 81 7 ≤ 320; omega
                    · show 0 ≤ h2 81 6; omega
                    · show h2 81 6 ≤ 320; omega)
                 | (rw [if_neg (by omega), if_pos k2] at hq hgd
                    refine hq _ (hF.st rfl) (zMs_r g4 ⟨g7, g6, (zst_eq _ _ _ _).trans k2.symm, fun q => ?_⟩ (hgd.2 _ rfl))
                    show h2 81 9 = ztn (zbt n t) s q7
                    unfold ztn
                    by_cases e : q7 = s + 1
                    · rw [if_pos e]; exact n1 e
                    · rw [if_neg e]; exact n2 (by omega)))
              | (have hk34 : zsr (zbt n t s) = 3 := by rw [zsr, if_neg (by omega), if_neg (by omega), if_neg (by omega), if_pos (by omega)]
                 have hte : zte n t s = s + 1 := by unfold zte; rw [hk34, if_neg (by omega), if_pos rfl]
                 rw [hk34, if_neg (by omega), if_neg (by omega), hte] at hq hgd
                 exact hq _ ((hF.st rfl).st rfl) (zMs_r g4 ⟨g7, by rw [zst_eq, zst_ne (by decide), g6]; rfl, by rw [zst_ne (by decide), zst_eq], fun q => by have q : (3 : Int) = 2 := q; omega⟩ (hgd.2 _ rfl)))
              | (have hk34 : zsr (zbt n t s) = 4 := by rw [zsr, if_neg (by omega), if_neg (by omega), if_neg (by omega), if_neg (by omega)]
                 have hlt := hk0 (by omega)
                 rw [hk34, if_pos (Or.inl rfl)] at hq
                 refine hq _ ((((hF.st rfl).st rfl).st rfl).st rfl) (zMs_l ?_ (by show (0 : Int) < 1; omega) ?_ ⟨?_, ?_⟩ ⟨?_, ?_⟩)
                 · rw [zst_ne (by decide), zst_eq]
                 · rw [zst_eq]; exact g7
                 · show 0 ≤ h2 81 7; omega
                 · show h2 81 7 ≤ 320; omega
                 · show 0 ≤ h2 81 6 + 1; omega
                 · show h2 81 6 + 1 ≤ 320; omega)
    · obtain ⟨rfl, rfl, q7, rfl, k1, hq1, hq2, hm, hF, g4, g6, g7, hz⟩ := hI
      have ht2 := ht.fr hF
      have hbq := hbb q7
      refine s_53t ht2 (p := q7) g6 ?_
      refine s_50 (fun a1 => ?_) (fun a1 => ?_)
      · refine And.intro (fun c => absurd c (by decide)) (fun _ => ?_)
        refine And.intro (by first | omega | (simp only [zx_st]; simp; omega)) ?_
        first
        | (exact ⟨3000 - s, by omega, Or.inr (Or.inr (Or.inl ⟨rfl, rfl, s, rfl, hk1 a1, by omega, by omega, rfl, hF, g4, g6, g7, rfl⟩))⟩)
        | (have hlt : q7 < n := zbt_lt (t := t) (by omega)
           have hzs : zsr (zbt n t q7) = k := by rw [k1, zsr, if_neg (by omega), if_pos a1]
           exact ⟨3000 - (q7 + 1), by omega, Or.inr (Or.inr (Or.inl ⟨rfl, rfl, q7 + 1, rfl, k1, by omega, by omega, rfl, hF.st rfl, g4, (zst_eq _ _ _ _).trans (by omega), g7, (zru_t hlt (by unfold zss; exact decide_eq_true hzs)).symm.trans hz⟩))⟩)
      · refine And.intro (fun _ => ?_) (fun c => absurd (by decide) c)
        unfold ztk1 at hq hgd
        first
        | (have hk00 : zsr (zbt n t s) = 0 := by rw [zsr, if_pos (by omega)]
           have hte : zte n t s = s := by unfold zte; rw [hk00, if_neg (by omega), if_neg (by omega)]
           rw [hk00, if_neg (by omega), if_neg (by omega), hte] at hq hgd
           exact hq _ (hF.st rfl) (zMs_r g4 ⟨g7, g6, zst_eq _ _ _ _, fun q => by have q : (0 : Int) = 2 := q; omega⟩ (hgd.2 _ rfl)))
        | (have hend : zru (zss k) n t s = q7 := by
             rw [← hz]
             apply zru_f
             unfold zss
             refine decide_eq_false (fun q => a1 ?_)
             rw [k1] at q
             unfold zsr at q
             repeat' split at q
             all_goals omega
           have hte : zte n t s = q7 := by unfold zte; rw [← hk, if_pos (Or.inl k1)]; exact hend
           rw [← hk, if_neg (by omega), if_neg (by omega), hte] at hq hgd
           exact hq _ (hF.st rfl) (zMs_r g4 ⟨g7, g6, (zst_eq _ _ _ _).trans k1.symm, fun q => by have q : k = 2 := q; omega⟩ (hgd.2 _ rfl)))
        | (have hend : zru (zss k) n t s = q7 := by
             rw [← hz]
             apply zru_f
             unfold zss
             refine decide_eq_false (fun q => a1 ?_)
             rw [k2] at q
             unfold zsr at q
             repeat' split at q
             all_goals omega
           have hte : zte n t s = q7 := by unfold zte; rw [← hk, if_pos (Or.inr k2)]; exact hend
           have hsq : s < q7 := by
             rcases Nat.lt_or_ge s q7 with q | q
             · exact q
             · exfalso
               have e : q7 = s := by omega
               subst e
               apply a1
               have q := hk
               rw [k2] at q
               unfold zsr at q
               repeat' split at q
               all_goals omega
           rw [← hk, hte] at hq hgd
           first
           | (rw [if_pos (Or.inr ⟨k2, by omega⟩)] at hq
              refine hq _ (((hF.st rfl).st rfl).st rfl) (zMs_l ?_ (by show (0 : Int) < 1; omega) ?_ ⟨?_, ?_⟩ ⟨?_, ?_⟩)
              · rw [zst_ne (by decide), zst_eq]
              · rw [zst_eq]; exact g7
              · show 0 ≤ h2 81 7; omega
              · show h2 81 7 ≤ 320; omega
              · show 0 ≤ h2 81 6; omega
              · show h2 81 6 ≤ 320; omega)
           | (rw [if_neg (by omega), if_pos k2] at hq hgd
              refine hq _ (hF.st rfl) (zMs_r g4 ⟨g7, g6, (zst_eq _ _ _ _).trans k2.symm, fun q => ?_⟩ (hgd.2 _ rfl))
              show h2 81 9 = ztn (zbt n t) s q7
              unfold ztn
              by_cases e : q7 = s + 1
              · rw [if_pos e]; exact n1 e
              · rw [if_neg e]; exact n2 (by omega)))
        | (have hk34 : zsr (zbt n t s) = 3 := by rw [zsr, if_neg (by omega), if_neg (by omega), if_neg (by omega), if_pos (by omega)]
           have hte : zte n t s = s + 1 := by unfold zte; rw [hk34, if_neg (by omega), if_pos rfl]
           rw [hk34, if_neg (by omega), if_neg (by omega), hte] at hq hgd
           exact hq _ ((hF.st rfl).st rfl) (zMs_r g4 ⟨g7, by rw [zst_eq, zst_ne (by decide), g6]; rfl, by rw [zst_ne (by decide), zst_eq], fun q => by have q : (3 : Int) = 2 := q; omega⟩ (hgd.2 _ rfl)))
        | (have hk34 : zsr (zbt n t s) = 4 := by rw [zsr, if_neg (by omega), if_neg (by omega), if_neg (by omega), if_neg (by omega)]
           have hlt := hk0 (by omega)
           rw [hk34, if_pos (Or.inl rfl)] at hq
           refine hq _ ((((hF.st rfl).st rfl).st rfl).st rfl) (zMs_l ?_ (by show (0 : Int) < 1; omega) ?_ ⟨?_, ?_⟩ ⟨?_, ?_⟩)
           · rw [zst_ne (by decide), zst_eq]
           · rw [zst_eq]; exact g7
           · show 0 ≤ h2 81 7; omega
           · show h2 81 7 ≤ 320; omega
           · show 0 ≤ h2 81 6 + 1; omega
           · show h2 81 6 + 1 ≤ 320; omega)
    · obtain ⟨rfl, rfl, q7, rfl, k2, hq1, hq2, hm, hF, g4, g6, g7, hz, n0, n1, n2, n3⟩ := hI
      have ht2 := ht.fr hF
      have hbq := hbb q7
      have hbs1 := hbb (s + 1)
      refine s_53t ht2 (p := q7) g6 ?_
      refine s_50 (fun a1 => ?_) (fun a1 => ?_)
      · refine And.intro (fun c => absurd c (by decide)) (fun _ => ?_)
        refine And.intro (by first | omega | (simp only [zx_st]; simp; omega)) ?_
        constructor
        · intro c5
          refine And.intro (by first
| (by_cases e : q7 = s
   · have := n0 e
     omega
   · have := n1 (by omega)
     have := n3 (by omega)
     omega)) ?_
          refine s_53t ht2 (p := q7) g6 ?_
          refine And.intro (by first
| (by_cases e : q7 = s
   · have := n0 e
     omega
   · have := n1 (by omega)
     have := n3 (by omega)
     omega)) ?_
          refine And.intro (by first
| (by_cases e : q7 = s
   · have := n0 e
     omega
   · have := n1 (by omega)
     have := n3 (by omega)
     omega)) ?_
          refine And.intro (by first | omega | (simp only [zx_st]; simp; omega)) ?_
          first
          | (exact ⟨2000 - s, by omega, Or.inr (Or.inr (Or.inr ⟨rfl, rfl, s, rfl, hk2 a2, by omega, by omega, rfl, hF, g4, g6, g7, rfl, fun _ => g9, fun q => by omega, fun q => by omega, fun q => by omega⟩))⟩)
          | (have hlt : q7 < n := zbt_lt (t := t) (by omega)
             have hzs : zsr (zbt n t q7) = k := by rw [k2, zsr, if_neg (by omega), if_neg (by omega), if_pos a1]
             refine ⟨2000 - (q7 + 1), by omega, Or.inr (Or.inr (Or.inr ⟨rfl, rfl, q7 + 1, rfl, k2, by omega, by omega, rfl, (hF.st rfl).st rfl, g4, ?_, g7, (zru_t hlt (by unfold zss; exact decide_eq_true hzs)).symm.trans hz, fun q => by omega, fun q => ?_, fun q => ?_, fun q => ?_⟩))⟩
             · rw [zst_eq, zst_ne (by decide), g6]; rfl
             · have e : q7 = s := by omega
               subst e
               have := n0 rfl
               rw [zst_ne (by decide), zst_eq]
               omega
             · rw [zst_ne (by decide), zst_eq]
               by_cases e : q7 = s + 1
               · subst e
                 have := n1 rfl
                 omega
               · have := n2 (by omega)
                 omega
             · by_cases e : q7 = s
               · subst e; exact a1
               · exact n3 (by omega))
        · intro c5
          refine And.intro (by first | omega | (simp only [zx_st]; simp; omega)) ?_
          first
          | (exact ⟨2000 - s, by omega, Or.inr (Or.inr (Or.inr ⟨rfl, rfl, s, rfl, hk2 a2, by omega, by omega, rfl, hF, g4, g6, g7, rfl, fun _ => g9, fun q => by omega, fun q => by omega, fun q => by omega⟩))⟩)
          | (have hlt : q7 < n := zbt_lt (t := t) (by omega)
             have hzs : zsr (zbt n t q7) = k := by rw [k2, zsr, if_neg (by omega), if_neg (by omega), if_pos a1]
             refine ⟨2000 - (q7 + 1), by omega, Or.inr (Or.inr (Or.inr ⟨rfl, rfl, q7 + 1, rfl, k2, by omega, by omega, rfl, (hF.st rfl).st rfl, g4, ?_, g7, (zru_t hlt (by unfold zss; exact decide_eq_true hzs)).symm.trans hz, fun q => by omega, fun q => ?_, fun q => ?_, fun q => ?_⟩))⟩
             · rw [zst_eq, zst_ne (by decide), g6]; rfl
             · have e : q7 = s := by omega
               subst e
               have := n0 rfl
               rw [zst_ne (by decide), zst_eq]
               omega
             · rw [zst_ne (by decide), zst_eq]
               by_cases e : q7 = s + 1
               · subst e
                 have := n1 rfl
                 omega
               · have := n2 (by omega)
                 omega
             · by_cases e : q7 = s
               · subst e; exact a1
               · exact n3 (by omega))
      · refine And.intro (fun _ => ?_) (fun c => absurd (by decide) c)
        refine And.intro (by first | omega | (simp only [zx_st]; simp; omega)) ?_
        constructor
        · intro c6
          first
          | (have c6b : 2 < h2 81 6 - h2 81 7 := c6)
          | (have c6b : ¬ 2 < h2 81 6 - h2 81 7 := c6)
          refine s_54 (fun a5 => ?_) (fun a5 => absurd g4 a5)
          unfold ztk1 at hq hgd
          first
          | (have hk00 : zsr (zbt n t s) = 0 := by rw [zsr, if_pos (by omega)]
             have hte : zte n t s = s := by unfold zte; rw [hk00, if_neg (by omega), if_neg (by omega)]
             rw [hk00, if_neg (by omega), if_neg (by omega), hte] at hq hgd
             exact hq _ (hF.st rfl) (zMs_r g4 ⟨g7, g6, zst_eq _ _ _ _, fun q => by have q : (0 : Int) = 2 := q; omega⟩ (hgd.2 _ rfl)))
          | (have hend : zru (zss k) n t s = q7 := by
               rw [← hz]
               apply zru_f
               unfold zss
               refine decide_eq_false (fun q => a1 ?_)
               rw [k1] at q
               unfold zsr at q
               repeat' split at q
               all_goals omega
             have hte : zte n t s = q7 := by unfold zte; rw [← hk, if_pos (Or.inl k1)]; exact hend
             rw [← hk, if_neg (by omega), if_neg (by omega), hte] at hq hgd
             exact hq _ (hF.st rfl) (zMs_r g4 ⟨g7, g6, (zst_eq _ _ _ _).trans k1.symm, fun q => by have q : k = 2 := q; omega⟩ (hgd.2 _ rfl)))
          | (have hend : zru (zss k) n t s = q7 := by
               rw [← hz]
               apply zru_f
               unfold zss
               refine decide_eq_false (fun q => a1 ?_)
               rw [k2] at q
               unfold zsr at q
               repeat' split at q
               all_goals omega
             have hte : zte n t s = q7 := by unfold zte; rw [← hk, if_pos (Or.inr k2)]; exact hend
             have hsq : s < q7 := by
               rcases Nat.lt_or_ge s q7 with q | q
               · exact q
               · exfalso
                 have e : q7 = s := by omega
                 subst e
                 apply a1
                 have q := hk
                 rw [k2] at q
                 unfold zsr at q
                 repeat' split at q
                 all_goals omega
             rw [← hk, hte] at hq hgd
             first
             | (rw [if_pos (Or.inr ⟨k2, by omega⟩)] at hq
                refine hq _ (((hF.st rfl).st rfl).st rfl) (zMs_l ?_ (by show (0 : Int) < 1; omega) ?_ ⟨?_, ?_⟩ ⟨?_, ?_⟩)
                · rw [zst_ne (by decide), zst_eq]
                · rw [zst_eq]; exact g7
                · show 0 ≤ h2 81 7; omega
                · show h2 81 7 ≤ 320; omega
                · show 0 ≤ h2 81 6; omega
                · show h2 81 6 ≤ 320; omega)
             | (rw [if_neg (by omega), if_pos k2] at hq hgd
                refine hq _ (hF.st rfl) (zMs_r g4 ⟨g7, g6, (zst_eq _ _ _ _).trans k2.symm, fun q => ?_⟩ (hgd.2 _ rfl))
                show h2 81 9 = ztn (zbt n t) s q7
                unfold ztn
                by_cases e : q7 = s + 1
                · rw [if_pos e]; exact n1 e
                · rw [if_neg e]; exact n2 (by omega)))
          | (have hk34 : zsr (zbt n t s) = 3 := by rw [zsr, if_neg (by omega), if_neg (by omega), if_neg (by omega), if_pos (by omega)]
             have hte : zte n t s = s + 1 := by unfold zte; rw [hk34, if_neg (by omega), if_pos rfl]
             rw [hk34, if_neg (by omega), if_neg (by omega), hte] at hq hgd
             exact hq _ ((hF.st rfl).st rfl) (zMs_r g4 ⟨g7, by rw [zst_eq, zst_ne (by decide), g6]; rfl, by rw [zst_ne (by decide), zst_eq], fun q => by have q : (3 : Int) = 2 := q; omega⟩ (hgd.2 _ rfl)))
          | (have hk34 : zsr (zbt n t s) = 4 := by rw [zsr, if_neg (by omega), if_neg (by omega), if_neg (by omega), if_neg (by omega)]
             have hlt := hk0 (by omega)
             rw [hk34, if_pos (Or.inl rfl)] at hq
             refine hq _ ((((hF.st rfl).st rfl).st rfl).st rfl) (zMs_l ?_ (by show (0 : Int) < 1; omega) ?_ ⟨?_, ?_⟩ ⟨?_, ?_⟩)
             · rw [zst_ne (by decide), zst_eq]
             · rw [zst_eq]; exact g7
             · show 0 ≤ h2 81 7; omega
             · show h2 81 7 ≤ 320; omega
             · show 0 ≤ h2 81 6 + 1; omega
             · show h2 81 6 + 1 ≤ 320; omega)
        · intro c6
          first
          | (have c6b : 2 < h2 81 6 - h2 81 7 := c6)
          | (have c6b : ¬ 2 < h2 81 6 - h2 81 7 := c6)
          unfold ztk1 at hq hgd
          first
          | (have hk00 : zsr (zbt n t s) = 0 := by rw [zsr, if_pos (by omega)]
             have hte : zte n t s = s := by unfold zte; rw [hk00, if_neg (by omega), if_neg (by omega)]
             rw [hk00, if_neg (by omega), if_neg (by omega), hte] at hq hgd
             exact hq _ (hF.st rfl) (zMs_r g4 ⟨g7, g6, zst_eq _ _ _ _, fun q => by have q : (0 : Int) = 2 := q; omega⟩ (hgd.2 _ rfl)))
          | (have hend : zru (zss k) n t s = q7 := by
               rw [← hz]
               apply zru_f
               unfold zss
               refine decide_eq_false (fun q => a1 ?_)
               rw [k1] at q
               unfold zsr at q
               repeat' split at q
               all_goals omega
             have hte : zte n t s = q7 := by unfold zte; rw [← hk, if_pos (Or.inl k1)]; exact hend
             rw [← hk, if_neg (by omega), if_neg (by omega), hte] at hq hgd
             exact hq _ (hF.st rfl) (zMs_r g4 ⟨g7, g6, (zst_eq _ _ _ _).trans k1.symm, fun q => by have q : k = 2 := q; omega⟩ (hgd.2 _ rfl)))
          | (have hend : zru (zss k) n t s = q7 := by
               rw [← hz]
               apply zru_f
               unfold zss
               refine decide_eq_false (fun q => a1 ?_)
               rw [k2] at q
               unfold zsr at q
               repeat' split at q
               all_goals omega
             have hte : zte n t s = q7 := by unfold zte; rw [← hk, if_pos (Or.inr k2)]; exact hend
             have hsq : s < q7 := by
               rcases Nat.lt_or_ge s q7 with q | q
               · exact q
               · exfalso
                 have e : q7 = s := by omega
                 subst e
                 apply a1
                 have q := hk
                 rw [k2] at q
                 unfold zsr at q
                 repeat' split at q
                 all_goals omega
             rw [← hk, hte] at hq hgd
             first
             | (rw [if_pos (Or.inr ⟨k2, by omega⟩)] at hq
                refine hq _ (((hF.st rfl).st rfl).st rfl) (zMs_l ?_ (by show (0 : Int) < 1; omega) ?_ ⟨?_, ?_⟩ ⟨?_, ?_⟩)
                · rw [zst_ne (by decide), zst_eq]
                · rw [zst_eq]; exact g7
                · show 0 ≤ h2 81 7; omega
                · show h2 81 7 ≤ 320; omega
                · show 0 ≤ h2 81 6; omega
                · show h2 81 6 ≤ 320; omega)
             | (rw [if_neg (by omega), if_pos k2] at hq hgd
                refine hq _ (hF.st rfl) (zMs_r g4 ⟨g7, g6, (zst_eq _ _ _ _).trans k2.symm, fun q => ?_⟩ (hgd.2 _ rfl))
                show h2 81 9 = ztn (zbt n t) s q7
                unfold ztn
                by_cases e : q7 = s + 1
                · rw [if_pos e]; exact n1 e
                · rw [if_neg e]; exact n2 (by omega)))
          | (have hk34 : zsr (zbt n t s) = 3 := by rw [zsr, if_neg (by omega), if_neg (by omega), if_neg (by omega), if_pos (by omega)]
             have hte : zte n t s = s + 1 := by unfold zte; rw [hk34, if_neg (by omega), if_pos rfl]
             rw [hk34, if_neg (by omega), if_neg (by omega), hte] at hq hgd
             exact hq _ ((hF.st rfl).st rfl) (zMs_r g4 ⟨g7, by rw [zst_eq, zst_ne (by decide), g6]; rfl, by rw [zst_ne (by decide), zst_eq], fun q => by have q : (3 : Int) = 2 := q; omega⟩ (hgd.2 _ rfl)))
          | (have hk34 : zsr (zbt n t s) = 4 := by rw [zsr, if_neg (by omega), if_neg (by omega), if_neg (by omega), if_neg (by omega)]
             have hlt := hk0 (by omega)
             rw [hk34, if_pos (Or.inl rfl)] at hq
             refine hq _ ((((hF.st rfl).st rfl).st rfl).st rfl) (zMs_l ?_ (by show (0 : Int) < 1; omega) ?_ ⟨?_, ?_⟩ ⟨?_, ?_⟩)
             · rw [zst_ne (by decide), zst_eq]
             · rw [zst_eq]; exact g7
             · show 0 ≤ h2 81 7; omega
             · show h2 81 7 ≤ 320; omega
             · show 0 ≤ h2 81 6 + 1; omega
             · show h2 81 6 + 1 ≤ 320; omega)
