theorem ite_true' {α : Type} {a b : α} : (if True then a else b) = a := if_pos trivial
set_option maxRecDepth 100000 in
set_option maxHeartbeats 4000000 in
theorem mc_readsAll {d : Nat} {h : AbH} {m : Nat} {ad : Nat → Nat} {sc : Nat → Int} {ar : Nat → Nat → Int} {K : Option AbV → AbH → Prop} (hA : mA ad) {g : Bool} {W w0 : Nat → Int} (hg : sc 11 = b2i g) (h0 : ar 0 = if g = true then W else w0) (kk : ∀ sc' ar', mE [0, 7, 8, 9] sc ar sc' ar' → pS g (allW W) w0 sc' ar' → K (some (vI 1)) (mH h m ad sc' ar')) : Vm (d + 1) m_X10_readsAll [vR (some m)] (mH h m ad sc ar) K := by
  refine Vm.intro rfl (Nat.le_of_ble_eq_true rfl) (fun _ => B_X10_readsAll_0 ?_)
  have e0 : nl (allW W) = 0 := wV_all.2.1
  have a0 : allW W 0 = 0 := if_pos (Or.inl rfl)
  have a1 : allW W 1 = 0 := if_pos (Or.inr (Or.inl rfl))
  have fin : ∀ ar', mE [0, 7, 8, 9] sc ar (va_up (va_up sc 8 0) 9 0) ar' → (∀ j, j < 400 → ar' 7 j = 0) → (ar' 0 = if g = true then allW W else w0) → K (some (vI 1)) (mH h m ad (va_up (va_up sc 8 0) 9 0) ar') := by
    intro ar' hE h7 h0'
    refine kk _ ar' hE ⟨by rw [vu_ne (by decide), vu_ne (by decide)]; exact hg, by rw [vu_ne (by decide), vu_same, a0], by rw [vu_same, a1], fun t d ht hd => ?_, h0'⟩
    rw [h7 _ (by omega), e0]
    rfl
  refine lp_up (P := fun i => ∀ ar', mE [7] sc ar sc ar' → (∀ j, j < i → ar' 7 j = 0) → Vx (d + 1) m_X10_readsAll 0 0 2 [some (vR (some m)), some (vI (i : Int))] [] (mH h m ad sc ar') K) (n := 400) ?_ ?_ 0 (by omega) ar mE.rf (fun j hj => absurd hj (by omega))
  · intro ar' hE h7
    have z0 : ar' 0 = ar 0 := hE.2 0 (by decide)
    refine B_X10_readsAll_2 ⟨fun _ => ?_, fun c => absurd (by decide) c⟩
    simp only [mCV, kI_some, kL_some, kR_some, kV_none, vu_app, mgR_0, mgR_3, mgR_12, mgR_13, mgR_14, mgR_16, mgR_17, mgR_18, mgR_19, mgR_20, mgR_21, mgR_2, mgR_7, mgI_1, mgI_4, mgI_5, mgI_6, mgI_8, mgI_9, mgI_10, mgI_11, mgI_15, mgI_22, mpI_1, mpI_4, mpI_5, mpI_6, mpI_8, mpI_9, mpI_10, mpI_11, mpI_15, mpI_22, mlI_0 hA, mlI_3 hA, mlI_12 hA, mlI_13 hA, mlI_14 hA, mlI_16 hA, mlI_17 hA, mlI_18 hA, mlI_19 hA, mlI_20 hA, mlI_21 hA, msI_0 hA, msI_3 hA, msI_12 hA, msI_13 hA, msI_14 hA, msI_16 hA, msI_17 hA, msI_18 hA, msI_19 hA, msI_20 hA, msI_21 hA, mlZ_2 hA, mlZ_7 hA, msZ_2 hA, msZ_7 hA, kI_some, kL_some, kR_some, kV_none, ne_eq, not_true_eq_false, not_false_eq_true, true_implies, false_implies, implies_true, true_and, and_true, ab_z01, or_true, true_or, reduceCtorEq, Option.some.injEq, Int.reduceEq, Int.reduceNe, Int.reduceLT, Int.reduceLE, Int.reduceNeg, Int.reduceAdd, Int.reduceSub, Int.reduceMul, Nat.reduceEqDiff, Nat.reduceAdd, Nat.reduceMul, Int.reduceToNat, ↓reduceIte, hg]
    have E8 : mE [0, 7, 8, 9] sc ar (va_up (va_up sc 8 0) 9 0) ar' := ((hE.mono (by decide)).sc (by decide)).sc (by decide)
    cases g with
    | false =>
      refine ⟨fun _ => ?_, fun z => absurd rfl z⟩
      exact fin ar' E8 h7 (by rw [z0, h0]; rfl)
    | true =>
      refine ⟨fun z => absurd z (by decide), fun _ => ?_⟩
      rw [if_pos rfl] at h0
      simp only [vu_up]
      repeat (first | refine And.intro (by omega) ?_ | refine And.intro (i3 (by omega) (by omega)) ?_)
      refine lp_up (P := fun i => 98 ≤ i → ∀ ar2, (∀ j, j ≠ 0 → ar2 j = ar' j) → (∀ j, ar2 0 j = if j = 0 ∨ j = 1 ∨ (98 ≤ j ∧ j < i) then 0 else W j) → Vx (d + 1) m_X10_readsAll 0 0 56 [some (vR (some m)), some (vI (i : Int))] [] (mH h m ad (va_up (va_up sc 8 0) 9 0) ar2) K) (n := 130) ?_ ?_ 98 (by decide) (Nat.le_refl _) _ (fun j hj => vu_ne hj) (fun j => ?_)
      · intro _ ar2 har h02
        refine B_X10_readsAll_56 ⟨fun _ => ?_, fun c => absurd (by decide) c⟩
        refine fin ar2 ⟨E8.1, fun j hj => (har j (fun z => hj (by rw [z]; decide))).trans (E8.2 j hj)⟩ (by rw [har 7 (by decide)]; exact h7) ?_
        rw [if_pos rfl]
        funext j
        exact h02 j
      · intro i hi ih h98 ar2 har h02
        refine B_X10_readsAll_56 ⟨fun c => absurd c (by omega), fun _ => ?_⟩
        simp only [mCV, kI_some, kL_some, kR_some, kV_none, vu_app, mgR_0, mgR_3, mgR_12, mgR_13, mgR_14, mgR_16, mgR_17, mgR_18, mgR_19, mgR_20, mgR_21, mgR_2, mgR_7, mgI_1, mgI_4, mgI_5, mgI_6, mgI_8, mgI_9, mgI_10, mgI_11, mgI_15, mgI_22, mpI_1, mpI_4, mpI_5, mpI_6, mpI_8, mpI_9, mpI_10, mpI_11, mpI_15, mpI_22, mlI_0 hA, mlI_3 hA, mlI_12 hA, mlI_13 hA, mlI_14 hA, mlI_16 hA, mlI_17 hA, mlI_18 hA, mlI_19 hA, mlI_20 hA, mlI_21 hA, msI_0 hA, msI_3 hA, msI_12 hA, msI_13 hA, msI_14 hA, msI_16 hA, msI_17 hA, msI_18 hA, msI_19 hA, msI_20 hA, msI_21 hA, mlZ_2 hA, mlZ_7 hA, msZ_2 hA, msZ_7 hA, kI_some, kL_some, kR_some, kV_none, ne_eq, not_true_eq_false, not_false_eq_true, true_implies, false_implies, implies_true, true_and, and_true, ab_z01, or_true, true_or, reduceCtorEq, Option.some.injEq, Int.reduceEq, Int.reduceNe, Int.reduceLT, Int.reduceLE, Int.reduceNeg, Int.reduceAdd, Int.reduceSub, Int.reduceMul, Nat.reduceEqDiff, Nat.reduceAdd, Nat.reduceMul, Int.reduceToNat, ↓reduceIte, Int.toNat_natCast]
        repeat (first | refine And.intro (by omega) ?_ | refine And.intro (i3 (by omega) (by omega)) ?_)
        refine ih (by omega) _ (fun j hj => (vu_ne hj).trans (har j hj)) (fun j => ?_)
        rw [vu_same, vu_app, h02]
        by_cases c : j = i
        · rw [if_pos c, if_pos (by omega)]
        · rw [if_neg c]
          by_cases c2 : j = 0 ∨ j = 1 ∨ (98 ≤ j ∧ j < i)
          · rw [if_pos c2, if_pos (by omega)]
          · rw [if_neg c2, if_neg (by omega)]
      · rw [vu_same, vu_app, vu_app, z0, h0]
        by_cases c : j = 1
        · rw [if_pos c, if_pos (by omega)]
        · rw [if_neg c]
          by_cases c2 : j = 0
          · rw [if_pos c2, if_pos (by omega)]
          · rw [if_neg c2, if_neg (by omega)]
  · intro i hi ih ar' hE h7
    refine B_X10_readsAll_2 ⟨fun c => absurd c (by omega), fun _ => ?_⟩
    simp only [mCV, kI_some, kL_some, kR_some, kV_none, vu_app, mgR_0, mgR_3, mgR_12, mgR_13, mgR_14, mgR_16, mgR_17, mgR_18, mgR_19, mgR_20, mgR_21, mgR_2, mgR_7, mgI_1, mgI_4, mgI_5, mgI_6, mgI_8, mgI_9, mgI_10, mgI_11, mgI_15, mgI_22, mpI_1, mpI_4, mpI_5, mpI_6, mpI_8, mpI_9, mpI_10, mpI_11, mpI_15, mpI_22, mlI_0 hA, mlI_3 hA, mlI_12 hA, mlI_13 hA, mlI_14 hA, mlI_16 hA, mlI_17 hA, mlI_18 hA, mlI_19 hA, mlI_20 hA, mlI_21 hA, msI_0 hA, msI_3 hA, msI_12 hA, msI_13 hA, msI_14 hA, msI_16 hA, msI_17 hA, msI_18 hA, msI_19 hA, msI_20 hA, msI_21 hA, mlZ_2 hA, mlZ_7 hA, msZ_2 hA, msZ_7 hA, kI_some, kL_some, kR_some, kV_none, ne_eq, not_true_eq_false, not_false_eq_true, true_implies, false_implies, implies_true, true_and, and_true, ab_z01, or_true, true_or, reduceCtorEq, Option.some.injEq, Int.reduceEq, Int.reduceNe, Int.reduceLT, Int.reduceLE, Int.reduceNeg, Int.reduceAdd, Int.reduceSub, Int.reduceMul, Nat.reduceEqDiff, Nat.reduceAdd, Nat.reduceMul, Int.reduceToNat, ↓reduceIte, Int.toNat_natCast]
    repeat (first | refine And.intro (by omega) ?_ | refine And.intro (i3 (by omega) (by omega)) ?_)
    refine ih _ (hE.ar (by decide)) (fun j hj => ?_)
    rw [vu_same, vu_app]
    by_cases c : j = i
    · rw [if_pos c]
    · rw [if_neg c]
      exact h7 j (by omega)
def wds (ar : Nat → Nat → Int) : Prop := ∀ x j, x < 4 → j < 4 → ar 13 (4 * x + j) = wch x j
theorem wdX_iff {T : Nat → Int} {L s x : Nat} : wdX T L s x = true ↔ (s < L ∧ tkE T L s ≤ s + 4) ∧ ∀ j, j < 4 → wch x j = chA T L s j := by
  unfold wdX
  rw [decide_eq_true_iff]
  constructor
  · rintro ⟨h1, h2, h3, h4, h5, h6⟩
    refine ⟨⟨h1, h2⟩, fun j hj => ?_⟩
    have : j = 0 ∨ j = 1 ∨ j = 2 ∨ j = 3 := by omega
    rcases this with rfl | rfl | rfl | rfl
    · exact h3
    · exact h4
    · exact h5
    · exact h6
  · rintro ⟨⟨h1, h2⟩, h3⟩
    exact ⟨h1, h2, h3 0 (by decide), h3 1 (by decide), h3 2 (by decide), h3 3 (by decide)⟩
set_option maxRecDepth 100000 in
set_option maxHeartbeats 4000000 in
theorem mc_wordHere {d : Nat} {h : AbH} {m : Nat} {ad : Nat → Nat} {sc : Nat → Int} {ar : Nat → Nat → Int} {K : Option AbV → AbH → Prop} (hA : mA ad) {T : Nat → Int} {L s : Nat} (hT : txV T L) (ht : tk T L sc ar s) (hW : wds ar) (kk : K (some (vI (wdN T L s))) (mH h m ad sc ar)) : Vm (d + 1) m_X10_wordHere [vR (some m)] (mH h m ad sc ar) K := by
  obtain ⟨h4, h3, hs, h5, h6⟩ := id ht
  obtain ⟨hL, hb⟩ := id hT
  have hE := tkE_le (T := T) hs
  have step : ∀ x : Nat, x < 4 → (wdX T L s x = true → K (some (vI (x : Int))) (mH h m ad sc ar)) → (¬ wdX T L s x = true → Vx (d + 1) m_X10_wordHere 0 0 2 [some (vR (some m)), some (vI ((x : Int) + 1)), none, none] [] (mH h m ad sc ar) K) → Vx (d + 1) m_X10_wordHere 0 0 2 [some (vR (some m)), some (vI (x : Int)), none, none] [] (mH h m ad sc ar) K := by
    intro x hx ky kn
    rw [wdX_iff] at ky kn
    have bad : ¬ ((s < L ∧ tkE T L s ≤ s + 4) ∧ ∀ j, j < 4 → wch x j = chA T L s j) → ∀ j : Int, Vx (d + 1) m_X10_wordHere 0 0 39 [some (vR (some m)), some (vI (x : Int)), some (vI 0), some (vI j)] [] (mH h m ad sc ar) K := by
      intro hn j
      refine B_X10_wordHere_39 ?_
      simp only [kI_some, kL_some, kR_some, kV_none, ne_eq, not_true_eq_false, not_false_eq_true, true_implies, false_implies, implies_true, true_and, and_true, ab_z01, or_true, true_or, reduceCtorEq, Option.some.injEq, Int.reduceEq, Int.reduceNe, Int.reduceLT, Int.reduceLE, Int.reduceNeg, Int.reduceAdd, Int.reduceSub, Int.reduceMul, Nat.reduceEqDiff, Nat.reduceAdd, Nat.reduceMul, Int.reduceToNat, ↓reduceIte]
      exact ⟨fun _ => ⟨i3 (by omega) (by omega), kn hn⟩, fun _ => ⟨i3 (by omega) (by omega), kn hn⟩⟩
    refine B_X10_wordHere_2 ⟨fun c => absurd c (by omega), fun _ => ?_⟩
    simp only [mCV, kI_some, kL_some, kR_some, kV_none, vu_app, mgR_0, mgR_3, mgR_12, mgR_13, mgR_14, mgR_16, mgR_17, mgR_18, mgR_19, mgR_20, mgR_21, mgR_2, mgR_7, mgI_1, mgI_4, mgI_5, mgI_6, mgI_8, mgI_9, mgI_10, mgI_11, mgI_15, mgI_22, mpI_1, mpI_4, mpI_5, mpI_6, mpI_8, mpI_9, mpI_10, mpI_11, mpI_15, mpI_22, mlI_0 hA, mlI_3 hA, mlI_12 hA, mlI_13 hA, mlI_14 hA, mlI_16 hA, mlI_17 hA, mlI_18 hA, mlI_19 hA, mlI_20 hA, mlI_21 hA, msI_0 hA, msI_3 hA, msI_12 hA, msI_13 hA, msI_14 hA, msI_16 hA, msI_17 hA, msI_18 hA, msI_19 hA, msI_20 hA, msI_21 hA, mlZ_2 hA, mlZ_7 hA, msZ_2 hA, msZ_7 hA, kI_some, kL_some, kR_some, kV_none, ne_eq, not_true_eq_false, not_false_eq_true, true_implies, false_implies, implies_true, true_and, and_true, ab_z01, or_true, true_or, reduceCtorEq, Option.some.injEq, Int.reduceEq, Int.reduceNe, Int.reduceLT, Int.reduceLE, Int.reduceNeg, Int.reduceAdd, Int.reduceSub, Int.reduceMul, Nat.reduceEqDiff, Nat.reduceAdd, Nat.reduceMul, Int.reduceToNat, ↓reduceIte, h5, h6]
    refine ⟨fun c => bad (fun z => by have := hE.2.2 z.1.1; omega) 0, fun c => ⟨i3 (by omega) (by omega), fun c2 => bad (fun z => by omega) 0, fun c2 => ?_⟩⟩
    refine lp_up (P := fun j => (∀ i, i < j → wch x i = chA T L s i) → Vx (d + 1) m_X10_wordHere 0 0 39 [some (vR (some m)), some (vI (x : Int)), some (vI 1), some (vI (j : Int))] [] (mH h m ad sc ar) K) (n := 4) ?_ ?_ 0 (by omega) (fun i hi => absurd hi (by omega))
    · intro hm
      refine B_X10_wordHere_39 ?_
      simp only [kI_some, kL_some, kR_some, kV_none, ne_eq, not_true_eq_false, not_false_eq_true, true_implies, false_implies, implies_true, true_and, and_true, ab_z01, or_true, true_or, reduceCtorEq, Option.some.injEq, Int.reduceEq, Int.reduceNe, Int.reduceLT, Int.reduceLE, Int.reduceNeg, Int.reduceAdd, Int.reduceSub, Int.reduceMul, Nat.reduceEqDiff, Nat.reduceAdd, Nat.reduceMul, Int.reduceToNat, ↓reduceIte]
      exact ⟨fun _ => ky ⟨⟨by omega, by omega⟩, hm⟩, fun c => absurd (by decide) c⟩
    · intro j hj ih hm
      refine B_X10_wordHere_39 ?_
      simp only [mCV, kI_some, kL_some, kR_some, kV_none, vu_app, mgR_0, mgR_3, mgR_12, mgR_13, mgR_14, mgR_16, mgR_17, mgR_18, mgR_19, mgR_20, mgR_21, mgR_2, mgR_7, mgI_1, mgI_4, mgI_5, mgI_6, mgI_8, mgI_9, mgI_10, mgI_11, mgI_15, mgI_22, mpI_1, mpI_4, mpI_5, mpI_6, mpI_8, mpI_9, mpI_10, mpI_11, mpI_15, mpI_22, mlI_0 hA, mlI_3 hA, mlI_12 hA, mlI_13 hA, mlI_14 hA, mlI_16 hA, mlI_17 hA, mlI_18 hA, mlI_19 hA, mlI_20 hA, mlI_21 hA, msI_0 hA, msI_3 hA, msI_12 hA, msI_13 hA, msI_14 hA, msI_16 hA, msI_17 hA, msI_18 hA, msI_19 hA, msI_20 hA, msI_21 hA, mlZ_2 hA, mlZ_7 hA, msZ_2 hA, msZ_7 hA, kI_some, kL_some, kR_some, kV_none, ne_eq, not_true_eq_false, not_false_eq_true, true_implies, false_implies, implies_true, true_and, and_true, ab_z01, or_true, true_or, reduceCtorEq, Option.some.injEq, Int.reduceEq, Int.reduceNe, Int.reduceLT, Int.reduceLE, Int.reduceNeg, Int.reduceAdd, Int.reduceSub, Int.reduceMul, Nat.reduceEqDiff, Nat.reduceAdd, Nat.reduceMul, Int.reduceToNat, ↓reduceIte, h5, h6, h3]
      refine ⟨fun c => absurd c (by omega), fun _ => ?_⟩
      rw [show (4 * (x : Int) + (j : Int)).toNat = 4 * x + j by omega, hW x j hx hj, show ((s : Int) + (j : Int)).toNat = s + j by omega]
      repeat (first | refine And.intro (by omega) ?_ | refine And.intro (i3 (by omega) (by omega)) ?_)
      have yes : wch x j = chA T L s j → in32 ((j : Int) + 1) ∧ Vx (d + 1) m_X10_wordHere 0 0 39 [some (vR (some m)), some (vI (x : Int)), some (vI 1), some (vI ((j : Int) + 1))] [] (mH h m ad sc ar) K := fun e => ⟨i3 (by omega) (by omega), ih (fun i hi => by
        by_cases c : i = j
        · rw [c]; exact e
        · exact hm i (by omega))⟩
      have no' : wch x j ≠ chA T L s j → in32 ((j : Int) + 1) ∧ Vx (d + 1) m_X10_wordHere 0 0 39 [some (vR (some m)), some (vI (x : Int)), some (vI 0), some (vI ((j : Int) + 1))] [] (mH h m ad sc ar) K := fun e => ⟨i3 (by omega) (by omega), bad (fun z => e (z.2 j hj)) _⟩
      unfold chA at yes no'
      refine ⟨fun c3 => ?_, fun c3 => ?_⟩
      · rw [if_neg (by omega)] at yes no'
        exact ⟨fun q => no' q, fun q => yes (Classical.byContradiction q)⟩
      · rw [if_pos (by omega)] at yes no'
        exact ⟨i3 (by omega) (by omega), by omega, by omega, fun q => no' q, fun q => yes (Classical.byContradiction q)⟩
  refine Vm.intro rfl (Nat.le_of_ble_eq_true rfl) (fun _ => B_X10_wordHere_0 ?_)
  unfold wdN at kk
  refine step 0 (by decide) (fun q => by rw [if_pos q] at kk; exact kk) (fun q0 => ?_)
  rw [if_neg q0] at kk
  refine step 1 (by decide) (fun q => by rw [if_pos q] at kk; exact kk) (fun q1 => ?_)
  rw [if_neg q1] at kk
  refine step 2 (by decide) (fun q => by rw [if_pos q] at kk; exact kk) (fun q2 => ?_)
  rw [if_neg q2] at kk
  refine step 3 (by decide) (fun q => by rw [if_pos q] at kk; exact kk) (fun q3 => ?_)
  rw [if_neg q3] at kk
  exact B_X10_wordHere_2 ⟨fun _ => kk, fun c => absurd (by decide) c⟩
theorem wdN_cases (T : Nat → Int) (L s : Nat) : wdN T L s = 0 ∨ wdN T L s = 1 ∨ wdN T L s = 2 ∨ wdN T L s = 3 ∨ wdN T L s = -1 := by
  unfold wdN
  repeat' split
  all_goals simp
set_option maxRecDepth 100000 in
set_option maxHeartbeats 4000000 in
theorem mc_readsClause {d : Nat} {h : AbH} {m : Nat} {ad : Nat → Nat} {sc : Nat → Int} {ar : Nat → Nat → Int} {K : Option AbV → AbH → Prop} (hA : mA ad) {T : Nat → Int} {L s : Nat} {g : Bool} {W w0 : Nat → Int} (hT : txV T L) (ht : tk T L sc ar s) (hW : wds ar) (hw : wV W) (hp : pS g W w0 sc ar) (kf : ∀ s', psC T L W s = (none, s') → ∀ sc' ar', mE PSs sc ar sc' ar' → pF g w0 s' sc' ar' → K (some (vI 0)) (mH h m ad sc' ar')) (kk : ∀ W' s', psC T L W s = (some W', s') → ∀ sc' ar', mE PSs sc ar sc' ar' → tk T L sc' ar' s' → pS g W' w0 sc' ar' → K (some (vI 1)) (mH h m ad sc' ar')) : Vm (d + 7) m_X10_readsClause [vR (some m)] (mH h m ad sc ar) K := by
  obtain ⟨n1, n2⟩ := hw.nlw
  obtain ⟨n3, n4⟩ := hw.now
  have TSP : ∀ j ∈ TS, j ∈ PSs := by decide
  have TSN : ∀ j ∈ TS, j ∈ NS := by decide
  refine Vm.intro rfl (Nat.le_of_ble_eq_true rfl) (fun _ => B_X10_readsClause_0 ?_)
  simp only [mCV]
  refine mc_wordHere hA hT ht hW ?_
  simp only [kI_some, kL_some, kR_some, kV_none, ne_eq, not_true_eq_false, not_false_eq_true, true_implies, false_implies, implies_true, true_and, and_true, ab_z01, or_true, true_or, reduceCtorEq, Option.some.injEq, Int.reduceEq, Int.reduceNe, Int.reduceLT, Int.reduceLE, Int.reduceNeg, Int.reduceAdd, Int.reduceSub, Int.reduceMul, Nat.reduceEqDiff, Nat.reduceAdd, Nat.reduceMul, Int.reduceToNat, ↓reduceIte]
  have nxt : ∀ {K' : Option AbV → AbH → Prop}, (∀ sc', mE TS sc ar sc' ar → tk T L sc' ar (nx T L s) → pS g W w0 sc' ar → K' none (mH h m ad sc' ar)) → Vm (d + 6) m_X10_nextToken [vR (some m)] (mH h m ad sc ar) K' := by
    intro K' hk
    obtain ⟨h4, h3, hs, h5, h6⟩ := id ht
    exact mc_nextToken hA hT h4 h3 h6 (tkE_le hs).2.1 (fun sc' hE htk => hk sc' hE htk (hp.mv (hE.mono TSN)))
  rcases wdN_cases T L s with q | q | q | q | q
  · have kc : psC T L W s = (some (allW W), nx T L s) := by unfold psC; rw [if_pos q]
    simp only [q, mCV, kI_some, kL_some, kR_some, kV_none, vu_app, mgR_0, mgR_3, mgR_12, mgR_13, mgR_14, mgR_16, mgR_17, mgR_18, mgR_19, mgR_20, mgR_21, mgR_2, mgR_7, mgI_1, mgI_4, mgI_5, mgI_6, mgI_8, mgI_9, mgI_10, mgI_11, mgI_15, mgI_22, mpI_1, mpI_4, mpI_5, mpI_6, mpI_8, mpI_9, mpI_10, mpI_11, mpI_15, mpI_22, mlI_0 hA, mlI_3 hA, mlI_12 hA, mlI_13 hA, mlI_14 hA, mlI_16 hA, mlI_17 hA, mlI_18 hA, mlI_19 hA, mlI_20 hA, mlI_21 hA, msI_0 hA, msI_3 hA, msI_12 hA, msI_13 hA, msI_14 hA, msI_16 hA, msI_17 hA, msI_18 hA, msI_19 hA, msI_20 hA, msI_21 hA, mlZ_2 hA, mlZ_7 hA, msZ_2 hA, msZ_7 hA, kI_some, kL_some, kR_some, kV_none, ne_eq, not_true_eq_false, not_false_eq_true, true_implies, false_implies, implies_true, true_and, and_true, ab_z01, or_true, true_or, reduceCtorEq, Option.some.injEq, Int.reduceEq, Int.reduceNe, Int.reduceLT, Int.reduceLE, Int.reduceNeg, Int.reduceAdd, Int.reduceSub, Int.reduceMul, Nat.reduceEqDiff, Nat.reduceAdd, Nat.reduceMul, Int.reduceToNat, ↓reduceIte]
    refine nxt (fun sc1 hE1 ht1 hp1 => ?_)
    simp only [mCV, kI_some, kL_some, kR_some, kV_none, vu_app, mgR_0, mgR_3, mgR_12, mgR_13, mgR_14, mgR_16, mgR_17, mgR_18, mgR_19, mgR_20, mgR_21, mgR_2, mgR_7, mgI_1, mgI_4, mgI_5, mgI_6, mgI_8, mgI_9, mgI_10, mgI_11, mgI_15, mgI_22, mpI_1, mpI_4, mpI_5, mpI_6, mpI_8, mpI_9, mpI_10, mpI_11, mpI_15, mpI_22, mlI_0 hA, mlI_3 hA, mlI_12 hA, mlI_13 hA, mlI_14 hA, mlI_16 hA, mlI_17 hA, mlI_18 hA, mlI_19 hA, mlI_20 hA, mlI_21 hA, msI_0 hA, msI_3 hA, msI_12 hA, msI_13 hA, msI_14 hA, msI_16 hA, msI_17 hA, msI_18 hA, msI_19 hA, msI_20 hA, msI_21 hA, mlZ_2 hA, mlZ_7 hA, msZ_2 hA, msZ_7 hA, kI_some, kL_some, kR_some, kV_none, ne_eq, not_true_eq_false, not_false_eq_true, true_implies, false_implies, implies_true, true_and, and_true, ab_z01, or_true, true_or, reduceCtorEq, Option.some.injEq, Int.reduceEq, Int.reduceNe, Int.reduceLT, Int.reduceLE, Int.reduceNeg, Int.reduceAdd, Int.reduceSub, Int.reduceMul, Nat.reduceEqDiff, Nat.reduceAdd, Nat.reduceMul, Int.reduceToNat, ↓reduceIte]
    refine mc_readsAll hA hp1.1 hp1.2.2.2.2 (fun sc2 ar2 hE2 hp2 => ?_)
    simp only [kI_some, kL_some, kR_some, kV_none, ne_eq, not_true_eq_false, not_false_eq_true, true_implies, false_implies, implies_true, true_and, and_true, ab_z01, or_true, true_or, reduceCtorEq, Option.some.injEq, Int.reduceEq, Int.reduceNe, Int.reduceLT, Int.reduceLE, Int.reduceNeg, Int.reduceAdd, Int.reduceSub, Int.reduceMul, Nat.reduceEqDiff, Nat.reduceAdd, Nat.reduceMul, Int.reduceToNat, ↓reduceIte]
    refine kk _ _ kc _ _ ((hE1.mono TSP).tr (hE2.mono (by decide))) ?_ hp2
    obtain ⟨h4, h3, hs, h5, h6⟩ := ht1
    exact ⟨(hE2.1 4 (by decide)).trans h4, (hE2.2 3 (by decide)).trans h3, hs, (hE2.1 5 (by decide)).trans h5, (hE2.1 6 (by decide)).trans h6⟩
  · simp only [q, mCV, kI_some, kL_some, kR_some, kV_none, vu_app, mgR_0, mgR_3, mgR_12, mgR_13, mgR_14, mgR_16, mgR_17, mgR_18, mgR_19, mgR_20, mgR_21, mgR_2, mgR_7, mgI_1, mgI_4, mgI_5, mgI_6, mgI_8, mgI_9, mgI_10, mgI_11, mgI_15, mgI_22, mpI_1, mpI_4, mpI_5, mpI_6, mpI_8, mpI_9, mpI_10, mpI_11, mpI_15, mpI_22, mlI_0 hA, mlI_3 hA, mlI_12 hA, mlI_13 hA, mlI_14 hA, mlI_16 hA, mlI_17 hA, mlI_18 hA, mlI_19 hA, mlI_20 hA, mlI_21 hA, msI_0 hA, msI_3 hA, msI_12 hA, msI_13 hA, msI_14 hA, msI_16 hA, msI_17 hA, msI_18 hA, msI_19 hA, msI_20 hA, msI_21 hA, mlZ_2 hA, mlZ_7 hA, msZ_2 hA, msZ_7 hA, kI_some, kL_some, kR_some, kV_none, ne_eq, not_true_eq_false, not_false_eq_true, true_implies, false_implies, implies_true, true_and, and_true, ab_z01, or_true, true_or, reduceCtorEq, Option.some.injEq, Int.reduceEq, Int.reduceNe, Int.reduceLT, Int.reduceLE, Int.reduceNeg, Int.reduceAdd, Int.reduceSub, Int.reduceMul, Nat.reduceEqDiff, Nat.reduceAdd, Nat.reduceMul, Int.reduceToNat, ↓reduceIte, hp.2.1]
    refine ⟨fun c => ?_, fun c => ?_⟩
    · exact kf s (by unfold psC; rw [if_neg (by omega), if_pos q, if_pos c]) _ _ mE.rf (pF_of hp ht)
    have kc : psC T L W s = psLaw T L W (nx T L s) := by unfold psC; rw [if_neg (by omega), if_pos q, if_neg c]
    rw [kc] at kf kk
    refine nxt (fun sc1 hE1 ht1 hp1 => ?_)
    simp only [mCV, kI_some, kL_some, kR_some, kV_none, vu_app, mgR_0, mgR_3, mgR_12, mgR_13, mgR_14, mgR_16, mgR_17, mgR_18, mgR_19, mgR_20, mgR_21, mgR_2, mgR_7, mgI_1, mgI_4, mgI_5, mgI_6, mgI_8, mgI_9, mgI_10, mgI_11, mgI_15, mgI_22, mpI_1, mpI_4, mpI_5, mpI_6, mpI_8, mpI_9, mpI_10, mpI_11, mpI_15, mpI_22, mlI_0 hA, mlI_3 hA, mlI_12 hA, mlI_13 hA, mlI_14 hA, mlI_16 hA, mlI_17 hA, mlI_18 hA, mlI_19 hA, mlI_20 hA, mlI_21 hA, msI_0 hA, msI_3 hA, msI_12 hA, msI_13 hA, msI_14 hA, msI_16 hA, msI_17 hA, msI_18 hA, msI_19 hA, msI_20 hA, msI_21 hA, mlZ_2 hA, mlZ_7 hA, msZ_2 hA, msZ_7 hA, kI_some, kL_some, kR_some, kV_none, ne_eq, not_true_eq_false, not_false_eq_true, true_implies, false_implies, implies_true, true_and, and_true, ab_z01, or_true, true_or, reduceCtorEq, Option.some.injEq, Int.reduceEq, Int.reduceNe, Int.reduceLT, Int.reduceLE, Int.reduceNeg, Int.reduceAdd, Int.reduceSub, Int.reduceMul, Nat.reduceEqDiff, Nat.reduceAdd, Nat.reduceMul, Int.reduceToNat, ↓reduceIte]
    refine mc_readsLaw hA hT ht1 hw (by omega) hp1 (fun s' e sc' ar' hE hF => ?_) (fun W' s' e sc' ar' hE htk hF => ?_) <;> simp only [kI_some, kL_some, kR_some, kV_none, ne_eq, not_true_eq_false, not_false_eq_true, true_implies, false_implies, implies_true, true_and, and_true, ab_z01, or_true, true_or, reduceCtorEq, Option.some.injEq, Int.reduceEq, Int.reduceNe, Int.reduceLT, Int.reduceLE, Int.reduceNeg, Int.reduceAdd, Int.reduceSub, Int.reduceMul, Nat.reduceEqDiff, Nat.reduceAdd, Nat.reduceMul, Int.reduceToNat, ↓reduceIte]
    · exact kf s' e _ _ ((hE1.mono TSP).tr hE) hF
    · exact kk W' s' e _ _ ((hE1.mono TSP).tr hE) htk hF
  · have kc : psC T L W s = psTwo T L (psMeet2 T L W) (nx T L s) := by unfold psC; rw [if_neg (by omega), if_neg (by omega), if_pos q]
    rw [kc] at kf kk
    simp only [q, mCV, kI_some, kL_some, kR_some, kV_none, vu_app, mgR_0, mgR_3, mgR_12, mgR_13, mgR_14, mgR_16, mgR_17, mgR_18, mgR_19, mgR_20, mgR_21, mgR_2, mgR_7, mgI_1, mgI_4, mgI_5, mgI_6, mgI_8, mgI_9, mgI_10, mgI_11, mgI_15, mgI_22, mpI_1, mpI_4, mpI_5, mpI_6, mpI_8, mpI_9, mpI_10, mpI_11, mpI_15, mpI_22, mlI_0 hA, mlI_3 hA, mlI_12 hA, mlI_13 hA, mlI_14 hA, mlI_16 hA, mlI_17 hA, mlI_18 hA, mlI_19 hA, mlI_20 hA, mlI_21 hA, msI_0 hA, msI_3 hA, msI_12 hA, msI_13 hA, msI_14 hA, msI_16 hA, msI_17 hA, msI_18 hA, msI_19 hA, msI_20 hA, msI_21 hA, mlZ_2 hA, mlZ_7 hA, msZ_2 hA, msZ_7 hA, kI_some, kL_some, kR_some, kV_none, ne_eq, not_true_eq_false, not_false_eq_true, true_implies, false_implies, implies_true, true_and, and_true, ab_z01, or_true, true_or, reduceCtorEq, Option.some.injEq, Int.reduceEq, Int.reduceNe, Int.reduceLT, Int.reduceLE, Int.reduceNeg, Int.reduceAdd, Int.reduceSub, Int.reduceMul, Nat.reduceEqDiff, Nat.reduceAdd, Nat.reduceMul, Int.reduceToNat, ↓reduceIte]
    refine nxt (fun sc1 hE1 ht1 hp1 => ?_)
    simp only [mCV, kI_some, kL_some, kR_some, kV_none, vu_app, mgR_0, mgR_3, mgR_12, mgR_13, mgR_14, mgR_16, mgR_17, mgR_18, mgR_19, mgR_20, mgR_21, mgR_2, mgR_7, mgI_1, mgI_4, mgI_5, mgI_6, mgI_8, mgI_9, mgI_10, mgI_11, mgI_15, mgI_22, mpI_1, mpI_4, mpI_5, mpI_6, mpI_8, mpI_9, mpI_10, mpI_11, mpI_15, mpI_22, mlI_0 hA, mlI_3 hA, mlI_12 hA, mlI_13 hA, mlI_14 hA, mlI_16 hA, mlI_17 hA, mlI_18 hA, mlI_19 hA, mlI_20 hA, mlI_21 hA, msI_0 hA, msI_3 hA, msI_12 hA, msI_13 hA, msI_14 hA, msI_16 hA, msI_17 hA, msI_18 hA, msI_19 hA, msI_20 hA, msI_21 hA, mlZ_2 hA, mlZ_7 hA, msZ_2 hA, msZ_7 hA, kI_some, kL_some, kR_some, kV_none, ne_eq, not_true_eq_false, not_false_eq_true, true_implies, false_implies, implies_true, true_and, and_true, ab_z01, or_true, true_or, reduceCtorEq, Option.some.injEq, Int.reduceEq, Int.reduceNe, Int.reduceLT, Int.reduceLE, Int.reduceNeg, Int.reduceAdd, Int.reduceSub, Int.reduceMul, Nat.reduceEqDiff, Nat.reduceAdd, Nat.reduceMul, Int.reduceToNat, ↓reduceIte]
    refine mc_readsMeet hA hT ht1 hw hp1 (fun s' e sc' ar' hE hF => ?_) (fun W' s' e sc' ar' hE htk hF => ?_) <;> simp only [kI_some, kL_some, kR_some, kV_none, ne_eq, not_true_eq_false, not_false_eq_true, true_implies, false_implies, implies_true, true_and, and_true, ab_z01, or_true, true_or, reduceCtorEq, Option.some.injEq, Int.reduceEq, Int.reduceNe, Int.reduceLT, Int.reduceLE, Int.reduceNeg, Int.reduceAdd, Int.reduceSub, Int.reduceMul, Nat.reduceEqDiff, Nat.reduceAdd, Nat.reduceMul, Int.reduceToNat, ↓reduceIte]
    · exact kf s' e _ _ ((hE1.mono TSP).tr hE) hF
    · exact kk W' s' e _ _ ((hE1.mono TSP).tr hE) htk hF
  · simp only [q, mCV, kI_some, kL_some, kR_some, kV_none, vu_app, mgR_0, mgR_3, mgR_12, mgR_13, mgR_14, mgR_16, mgR_17, mgR_18, mgR_19, mgR_20, mgR_21, mgR_2, mgR_7, mgI_1, mgI_4, mgI_5, mgI_6, mgI_8, mgI_9, mgI_10, mgI_11, mgI_15, mgI_22, mpI_1, mpI_4, mpI_5, mpI_6, mpI_8, mpI_9, mpI_10, mpI_11, mpI_15, mpI_22, mlI_0 hA, mlI_3 hA, mlI_12 hA, mlI_13 hA, mlI_14 hA, mlI_16 hA, mlI_17 hA, mlI_18 hA, mlI_19 hA, mlI_20 hA, mlI_21 hA, msI_0 hA, msI_3 hA, msI_12 hA, msI_13 hA, msI_14 hA, msI_16 hA, msI_17 hA, msI_18 hA, msI_19 hA, msI_20 hA, msI_21 hA, mlZ_2 hA, mlZ_7 hA, msZ_2 hA, msZ_7 hA, kI_some, kL_some, kR_some, kV_none, ne_eq, not_true_eq_false, not_false_eq_true, true_implies, false_implies, implies_true, true_and, and_true, ab_z01, or_true, true_or, reduceCtorEq, Option.some.injEq, Int.reduceEq, Int.reduceNe, Int.reduceLT, Int.reduceLE, Int.reduceNeg, Int.reduceAdd, Int.reduceSub, Int.reduceMul, Nat.reduceEqDiff, Nat.reduceAdd, Nat.reduceMul, Int.reduceToNat, ↓reduceIte, hp.2.2.1]
    refine ⟨fun c => ?_, fun c => ?_⟩
    · have kc : psC T L W s = psTwo T L (psLoan2 T L W) (nx T L s) := by unfold psC; rw [if_neg (by omega), if_neg (by omega), if_neg (by omega), if_pos q, if_neg c]
      rw [kc] at kf kk
      refine nxt (fun sc1 hE1 ht1 hp1 => ?_)
      simp only [mCV, kI_some, kL_some, kR_some, kV_none, vu_app, mgR_0, mgR_3, mgR_12, mgR_13, mgR_14, mgR_16, mgR_17, mgR_18, mgR_19, mgR_20, mgR_21, mgR_2, mgR_7, mgI_1, mgI_4, mgI_5, mgI_6, mgI_8, mgI_9, mgI_10, mgI_11, mgI_15, mgI_22, mpI_1, mpI_4, mpI_5, mpI_6, mpI_8, mpI_9, mpI_10, mpI_11, mpI_15, mpI_22, mlI_0 hA, mlI_3 hA, mlI_12 hA, mlI_13 hA, mlI_14 hA, mlI_16 hA, mlI_17 hA, mlI_18 hA, mlI_19 hA, mlI_20 hA, mlI_21 hA, msI_0 hA, msI_3 hA, msI_12 hA, msI_13 hA, msI_14 hA, msI_16 hA, msI_17 hA, msI_18 hA, msI_19 hA, msI_20 hA, msI_21 hA, mlZ_2 hA, mlZ_7 hA, msZ_2 hA, msZ_7 hA, kI_some, kL_some, kR_some, kV_none, ne_eq, not_true_eq_false, not_false_eq_true, true_implies, false_implies, implies_true, true_and, and_true, ab_z01, or_true, true_or, reduceCtorEq, Option.some.injEq, Int.reduceEq, Int.reduceNe, Int.reduceLT, Int.reduceLE, Int.reduceNeg, Int.reduceAdd, Int.reduceSub, Int.reduceMul, Nat.reduceEqDiff, Nat.reduceAdd, Nat.reduceMul, Int.reduceToNat, ↓reduceIte]
      refine mc_readsLoan hA hT ht1 hw (by omega) hp1 (fun s' e sc' ar' hE hF => ?_) (fun W' s' e sc' ar' hE htk hF => ?_) <;> simp only [kI_some, kL_some, kR_some, kV_none, ne_eq, not_true_eq_false, not_false_eq_true, true_implies, false_implies, implies_true, true_and, and_true, ab_z01, or_true, true_or, reduceCtorEq, Option.some.injEq, Int.reduceEq, Int.reduceNe, Int.reduceLT, Int.reduceLE, Int.reduceNeg, Int.reduceAdd, Int.reduceSub, Int.reduceMul, Nat.reduceEqDiff, Nat.reduceAdd, Nat.reduceMul, Int.reduceToNat, ↓reduceIte]
      · exact kf s' e _ _ ((hE1.mono TSP).tr hE) hF
      · exact kk W' s' e _ _ ((hE1.mono TSP).tr hE) htk hF
    · exact kf s (by unfold psC; rw [if_neg (by omega), if_neg (by omega), if_neg (by omega), if_pos q, if_pos (Classical.byContradiction c)]) _ _ mE.rf (pF_of hp ht)
  · simp only [q, mCV, kI_some, kL_some, kR_some, kV_none, vu_app, mgR_0, mgR_3, mgR_12, mgR_13, mgR_14, mgR_16, mgR_17, mgR_18, mgR_19, mgR_20, mgR_21, mgR_2, mgR_7, mgI_1, mgI_4, mgI_5, mgI_6, mgI_8, mgI_9, mgI_10, mgI_11, mgI_15, mgI_22, mpI_1, mpI_4, mpI_5, mpI_6, mpI_8, mpI_9, mpI_10, mpI_11, mpI_15, mpI_22, mlI_0 hA, mlI_3 hA, mlI_12 hA, mlI_13 hA, mlI_14 hA, mlI_16 hA, mlI_17 hA, mlI_18 hA, mlI_19 hA, mlI_20 hA, mlI_21 hA, msI_0 hA, msI_3 hA, msI_12 hA, msI_13 hA, msI_14 hA, msI_16 hA, msI_17 hA, msI_18 hA, msI_19 hA, msI_20 hA, msI_21 hA, mlZ_2 hA, mlZ_7 hA, msZ_2 hA, msZ_7 hA, kI_some, kL_some, kR_some, kV_none, ne_eq, not_true_eq_false, not_false_eq_true, true_implies, false_implies, implies_true, true_and, and_true, ab_z01, or_true, true_or, reduceCtorEq, Option.some.injEq, Int.reduceEq, Int.reduceNe, Int.reduceLT, Int.reduceLE, Int.reduceNeg, Int.reduceAdd, Int.reduceSub, Int.reduceMul, Nat.reduceEqDiff, Nat.reduceAdd, Nat.reduceMul, Int.reduceToNat, ↓reduceIte]
    exact kf s (by unfold psC; rw [if_neg (by omega), if_neg (by omega), if_neg (by omega), if_neg (by omega)]) _ _ mE.rf (pF_of hp ht)
