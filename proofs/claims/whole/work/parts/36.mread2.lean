set_option maxRecDepth 100000 in
set_option maxHeartbeats 4000000 in
theorem mc_readsLaw {d : Nat} {h : AbH} {m : Nat} {ad : Nat → Nat} {sc : Nat → Int} {ar : Nat → Nat → Int} {K : Option AbV → AbH → Prop} (hA : mA ad) {T : Nat → Int} {L s : Nat} {g : Bool} {W w0 : Nat → Int} (hT : txV T L) (ht : tk T L sc ar s) (hw : wV W) (hn : nl W ≤ 15) (hp : pS g W w0 sc ar) (kf : ∀ s', psLaw T L W s = (none, s') → ∀ sc' ar', mE PSs sc ar sc' ar' → pF g w0 s' sc' ar' → K (some (vI 0)) (mH h m ad sc' ar')) (kk : ∀ W' s', psLaw T L W s = (some W', s') → ∀ sc' ar', mE PSs sc ar sc' ar' → tk T L sc' ar' s' → pS g W' w0 sc' ar' → K (some (vI 1)) (mH h m ad sc' ar')) : Vm (d + 6) m_X10_readsLaw [vR (some m)] (mH h m ad sc ar) K := by
  obtain ⟨n1, n2⟩ := hw.nlw
  refine Vm.intro rfl (Nat.le_of_ble_eq_true rfl) (fun _ => B_X10_readsLaw_0 ?_)
  simp only [mCV]
  refine mcn_number hA hT ht (i := 0) (by decide) (by decide) (fun c => ?_) (fun c sc1 ar1 hE1 f1 ht1 => ?_) <;> simp only [mCV, kI_some, kL_some, kR_some, kV_none, vu_app, mgR_0, mgR_3, mgR_12, mgR_13, mgR_14, mgR_16, mgR_17, mgR_18, mgR_19, mgR_20, mgR_21, mgR_2, mgR_7, mgI_1, mgI_4, mgI_5, mgI_6, mgI_8, mgI_9, mgI_10, mgI_11, mgI_15, mgI_22, mpI_1, mpI_4, mpI_5, mpI_6, mpI_8, mpI_9, mpI_10, mpI_11, mpI_15, mpI_22, mlI_0 hA, mlI_3 hA, mlI_12 hA, mlI_13 hA, mlI_14 hA, mlI_16 hA, mlI_17 hA, mlI_18 hA, mlI_19 hA, mlI_20 hA, mlI_21 hA, msI_0 hA, msI_3 hA, msI_12 hA, msI_13 hA, msI_14 hA, msI_16 hA, msI_17 hA, msI_18 hA, msI_19 hA, msI_20 hA, msI_21 hA, mlZ_2 hA, mlZ_7 hA, msZ_2 hA, msZ_7 hA, kI_some, kL_some, kR_some, kV_none, ne_eq, not_true_eq_false, not_false_eq_true, true_implies, false_implies, implies_true, true_and, and_true, ab_z01, or_true, true_or, reduceCtorEq, Option.some.injEq, Int.reduceEq, Int.reduceNe, Int.reduceLT, Int.reduceLE, Int.reduceNeg, Int.reduceAdd, Int.reduceSub, Int.reduceMul, Nat.reduceEqDiff, Nat.reduceAdd, Nat.reduceMul, Int.reduceToNat, ↓reduceIte]
  · exact kf s (by unfold psLaw; rw [if_neg (by omega)]) _ _ mE.rf (pF_of hp ht)
  have k1 : psLaw T L W s = psLaw1 T L W (numH T L s) (nx T L s) := by unfold psLaw; rw [if_pos c.1]
  rw [k1] at kf kk
  obtain ⟨t, et⟩ : ∃ t, t = numH T L s := ⟨_, rfl⟩
  rw [← et] at kf kk f1 c
  obtain ⟨s1, es1⟩ : ∃ s1, s1 = nx T L s := ⟨_, rfl⟩
  rw [← es1] at kf kk ht1
  have hp1 := hp.mv hE1
  refine mc_numberHere hA hT ht1 ?_
  simp only [mCV, kI_some, kL_some, kR_some, kV_none, vu_app, mgR_0, mgR_3, mgR_12, mgR_13, mgR_14, mgR_16, mgR_17, mgR_18, mgR_19, mgR_20, mgR_21, mgR_2, mgR_7, mgI_1, mgI_4, mgI_5, mgI_6, mgI_8, mgI_9, mgI_10, mgI_11, mgI_15, mgI_22, mpI_1, mpI_4, mpI_5, mpI_6, mpI_8, mpI_9, mpI_10, mpI_11, mpI_15, mpI_22, mlI_0 hA, mlI_3 hA, mlI_12 hA, mlI_13 hA, mlI_14 hA, mlI_16 hA, mlI_17 hA, mlI_18 hA, mlI_19 hA, mlI_20 hA, mlI_21 hA, msI_0 hA, msI_3 hA, msI_12 hA, msI_13 hA, msI_14 hA, msI_16 hA, msI_17 hA, msI_18 hA, msI_19 hA, msI_20 hA, msI_21 hA, mlZ_2 hA, mlZ_7 hA, msZ_2 hA, msZ_7 hA, kI_some, kL_some, kR_some, kV_none, ne_eq, not_true_eq_false, not_false_eq_true, true_implies, false_implies, implies_true, true_and, and_true, ab_z01, or_true, true_or, reduceCtorEq, Option.some.injEq, Int.reduceEq, Int.reduceNe, Int.reduceLT, Int.reduceLE, Int.reduceNeg, Int.reduceAdd, Int.reduceSub, Int.reduceMul, Nat.reduceEqDiff, Nat.reduceAdd, Nat.reduceMul, Int.reduceToNat, ↓reduceIte]
  obtain ⟨dd, ed⟩ : ∃ dd, dd = numH T L s1 := ⟨_, rfl⟩
  rw [← ed]
  have kf1 : ¬ ((1 ≤ dd ∧ dd ≤ 99) ∧ ¬ hasL W t dd (nl W) = true) → ∀ sc' ar', mE PSs sc ar sc' ar' → pF g w0 s1 sc' ar' → K (some (vI 0)) (mH h m ad sc' ar') := fun q => kf s1 (by unfold psLaw1; rw [← ed, if_neg q])
  refine mc_in (fun c1 => ?_) (fun c1 => ?_) <;> simp only [mCV, kI_some, kL_some, kR_some, kV_none, vu_app, mgR_0, mgR_3, mgR_12, mgR_13, mgR_14, mgR_16, mgR_17, mgR_18, mgR_19, mgR_20, mgR_21, mgR_2, mgR_7, mgI_1, mgI_4, mgI_5, mgI_6, mgI_8, mgI_9, mgI_10, mgI_11, mgI_15, mgI_22, mpI_1, mpI_4, mpI_5, mpI_6, mpI_8, mpI_9, mpI_10, mpI_11, mpI_15, mpI_22, mlI_0 hA, mlI_3 hA, mlI_12 hA, mlI_13 hA, mlI_14 hA, mlI_16 hA, mlI_17 hA, mlI_18 hA, mlI_19 hA, mlI_20 hA, mlI_21 hA, msI_0 hA, msI_3 hA, msI_12 hA, msI_13 hA, msI_14 hA, msI_16 hA, msI_17 hA, msI_18 hA, msI_19 hA, msI_20 hA, msI_21 hA, mlZ_2 hA, mlZ_7 hA, msZ_2 hA, msZ_7 hA, kI_some, kL_some, kR_some, kV_none, ne_eq, not_true_eq_false, not_false_eq_true, true_implies, false_implies, implies_true, true_and, and_true, ab_z01, or_true, true_or, reduceCtorEq, Option.some.injEq, Int.reduceEq, Int.reduceNe, Int.reduceLT, Int.reduceLE, Int.reduceNeg, Int.reduceAdd, Int.reduceSub, Int.reduceMul, Nat.reduceEqDiff, Nat.reduceAdd, Nat.reduceMul, Int.reduceToNat, ↓reduceIte]
  · have z10 : ar1 12 0 = t := by rw [f1, if_pos rfl]
    have c := c.1
    obtain ⟨tn, rfl⟩ := Int.eq_ofNat_of_zero_le c.1
    obtain ⟨dn, hdn⟩ := Int.eq_ofNat_of_zero_le (show 0 ≤ dd by omega)
    have hlook : ar1 7 (100 * tn + dn) = b2i (hasL W (tn : Int) dd (nl W)) := by rw [hdn]; exact hp1.2.2.2.1 tn dn (by omega) (by omega)
    simp only [z10]
    rw [show (100 * (tn : Int) + dd).toNat = 100 * tn + dn by omega, hlook]
    repeat (first | refine And.intro (by omega) ?_ | refine And.intro (i3 (by omega) (by omega)) ?_)
    cases hb : hasL W (tn : Int) dd (nl W) with
    | true => exact ⟨fun z => absurd z (by decide), fun _ => kf1 (fun z => z.2 hb) _ _ (hE1.mono NS_PS) (pF_of hp1 ht1)⟩
    | false =>
      refine ⟨fun _ => ?_, fun z => absurd rfl z⟩
      have k2 : psLaw1 T L W (tn : Int) s1 = psLaw2 T L W (tn : Int) dd (nx T L s1) := by unfold psLaw1; rw [← ed, if_pos ⟨c1, by rw [hb]; decide⟩]
      rw [k2] at kf kk
      refine mcn_number hA hT ht1 (i := 1) (by decide) (by decide) (fun c2 => absurd ⟨by rw [← ed]; exact c1, by rw [← ed]; omega⟩ c2) (fun c2 sc2 ar2 hE2 f2 ht2 => ?_)
      simp only [mCV, kI_some, kL_some, kR_some, kV_none, vu_app, mgR_0, mgR_3, mgR_12, mgR_13, mgR_14, mgR_16, mgR_17, mgR_18, mgR_19, mgR_20, mgR_21, mgR_2, mgR_7, mgI_1, mgI_4, mgI_5, mgI_6, mgI_8, mgI_9, mgI_10, mgI_11, mgI_15, mgI_22, mpI_1, mpI_4, mpI_5, mpI_6, mpI_8, mpI_9, mpI_10, mpI_11, mpI_15, mpI_22, mlI_0 hA, mlI_3 hA, mlI_12 hA, mlI_13 hA, mlI_14 hA, mlI_16 hA, mlI_17 hA, mlI_18 hA, mlI_19 hA, mlI_20 hA, mlI_21 hA, msI_0 hA, msI_3 hA, msI_12 hA, msI_13 hA, msI_14 hA, msI_16 hA, msI_17 hA, msI_18 hA, msI_19 hA, msI_20 hA, msI_21 hA, mlZ_2 hA, mlZ_7 hA, msZ_2 hA, msZ_7 hA, kI_some, kL_some, kR_some, kV_none, ne_eq, not_true_eq_false, not_false_eq_true, true_implies, false_implies, implies_true, true_and, and_true, ab_z01, or_true, true_or, reduceCtorEq, Option.some.injEq, Int.reduceEq, Int.reduceNe, Int.reduceLT, Int.reduceLE, Int.reduceNeg, Int.reduceAdd, Int.reduceSub, Int.reduceMul, Nat.reduceEqDiff, Nat.reduceAdd, Nat.reduceMul, Int.reduceToNat, ↓reduceIte]
      rw [← ed] at f2
      obtain ⟨s2, es2⟩ : ∃ s2, s2 = nx T L s1 := ⟨_, rfl⟩
      rw [← es2] at kf kk ht2
      have hp2 := hp1.mv hE2
      have hE2 := hE1.tr hE2
      obtain ⟨x, ex⟩ : ∃ x, x = sndH T L s2 := ⟨_, rfl⟩
      have xb : -1 ≤ x ∧ x ≤ 25 := by rw [ex]; exact sndH_b
      refine mcn_sound hA hT ht2 (i := 2) (n := -1) (by decide) (fun c3 => ?_) (fun c3 sc3 ar3 hE3 f3 ht3 => ?_) <;> simp only [mCV, kI_some, kL_some, kR_some, kV_none, vu_app, mgR_0, mgR_3, mgR_12, mgR_13, mgR_14, mgR_16, mgR_17, mgR_18, mgR_19, mgR_20, mgR_21, mgR_2, mgR_7, mgI_1, mgI_4, mgI_5, mgI_6, mgI_8, mgI_9, mgI_10, mgI_11, mgI_15, mgI_22, mpI_1, mpI_4, mpI_5, mpI_6, mpI_8, mpI_9, mpI_10, mpI_11, mpI_15, mpI_22, mlI_0 hA, mlI_3 hA, mlI_12 hA, mlI_13 hA, mlI_14 hA, mlI_16 hA, mlI_17 hA, mlI_18 hA, mlI_19 hA, mlI_20 hA, mlI_21 hA, msI_0 hA, msI_3 hA, msI_12 hA, msI_13 hA, msI_14 hA, msI_16 hA, msI_17 hA, msI_18 hA, msI_19 hA, msI_20 hA, msI_21 hA, mlZ_2 hA, mlZ_7 hA, msZ_2 hA, msZ_7 hA, kI_some, kL_some, kR_some, kV_none, ne_eq, not_true_eq_false, not_false_eq_true, true_implies, false_implies, implies_true, true_and, and_true, ab_z01, or_true, true_or, reduceCtorEq, Option.some.injEq, Int.reduceEq, Int.reduceNe, Int.reduceLT, Int.reduceLE, Int.reduceNeg, Int.reduceAdd, Int.reduceSub, Int.reduceMul, Nat.reduceEqDiff, Nat.reduceAdd, Nat.reduceMul, Int.reduceToNat, ↓reduceIte]
      · exact kf s2 (by unfold psLaw2; rw [if_pos (by rcases c3 with q | q <;> exact q)]) _ _ (hE2.mono NS_PS) (pF_of hp2 ht2)
      rw [← ex] at f3 c3
      have k3 : psLaw2 T L W (tn : Int) dd s2 = psLaw3 T L W (tn : Int) dd x (nx T L s2) := by unfold psLaw2; rw [← ex, if_neg (by omega)]
      rw [k3] at kf kk
      obtain ⟨s3, es3⟩ : ∃ s3, s3 = nx T L s2 := ⟨_, rfl⟩
      rw [← es3] at kf kk ht3
      have hp3 := hp2.mv hE3
      have hE3 := hE2.tr hE3
      have z32 : ar3 12 2 = x := by rw [f3, if_pos rfl]
      simp only [z32]
      refine mcn_lost hA hT ht3 (i := 3) (by decide) (fun c4 c5 => ?_) (fun y hy sc4 ar4 hE4 f4 ht4 => ?_) <;> simp only [mCV, kI_some, kL_some, kR_some, kV_none, vu_app, mgR_0, mgR_3, mgR_12, mgR_13, mgR_14, mgR_16, mgR_17, mgR_18, mgR_19, mgR_20, mgR_21, mgR_2, mgR_7, mgI_1, mgI_4, mgI_5, mgI_6, mgI_8, mgI_9, mgI_10, mgI_11, mgI_15, mgI_22, mpI_1, mpI_4, mpI_5, mpI_6, mpI_8, mpI_9, mpI_10, mpI_11, mpI_15, mpI_22, mlI_0 hA, mlI_3 hA, mlI_12 hA, mlI_13 hA, mlI_14 hA, mlI_16 hA, mlI_17 hA, mlI_18 hA, mlI_19 hA, mlI_20 hA, mlI_21 hA, msI_0 hA, msI_3 hA, msI_12 hA, msI_13 hA, msI_14 hA, msI_16 hA, msI_17 hA, msI_18 hA, msI_19 hA, msI_20 hA, msI_21 hA, mlZ_2 hA, mlZ_7 hA, msZ_2 hA, msZ_7 hA, kI_some, kL_some, kR_some, kV_none, ne_eq, not_true_eq_false, not_false_eq_true, true_implies, false_implies, implies_true, true_and, and_true, ab_z01, or_true, true_or, reduceCtorEq, Option.some.injEq, Int.reduceEq, Int.reduceNe, Int.reduceLT, Int.reduceLE, Int.reduceNeg, Int.reduceAdd, Int.reduceSub, Int.reduceMul, Nat.reduceEqDiff, Nat.reduceAdd, Nat.reduceMul, Int.reduceToNat, ↓reduceIte]
      · exact kf s3 (by unfold psLaw3; rw [if_neg c4, if_pos c5]) _ _ (hE3.mono NS_PS) (pF_of hp3 ht3)
      have yb : (-1 ≤ y ∧ y ≤ 25) ∧ x ≠ y := by
        have := sndH_b (T := T) (L := L) (s := s3)
        rcases hy with q | q
        · omega
        · omega
      have k4 : psLaw3 T L W (tn : Int) dd x s3 = psLaw4 T L W (tn : Int) dd x y (nx T L s3) := by
        unfold psLaw3
        rcases hy with q | q
        · rw [if_pos ⟨q.1, q.2.1⟩, q.2.2]
        · rw [if_neg q.1, if_neg q.2.1, q.2.2]
      rw [k4] at kf kk
      obtain ⟨s4, es4⟩ : ∃ s4, s4 = nx T L s3 := ⟨_, rfl⟩
      rw [← es4] at kf kk ht4
      have hp4 := hp3.mv hE4
      have hE4 := hE3.tr hE4
      refine mcn_where hA hT ht4 (fun s' sc5 ar5 hs hE5 ht5 => ?_) (fun v z s' hv sc5 ar5 hE5 f5 ht5 => ?_) <;> simp only [mCV, kI_some, kL_some, kR_some, kV_none, vu_app, mgR_0, mgR_3, mgR_12, mgR_13, mgR_14, mgR_16, mgR_17, mgR_18, mgR_19, mgR_20, mgR_21, mgR_2, mgR_7, mgI_1, mgI_4, mgI_5, mgI_6, mgI_8, mgI_9, mgI_10, mgI_11, mgI_15, mgI_22, mpI_1, mpI_4, mpI_5, mpI_6, mpI_8, mpI_9, mpI_10, mpI_11, mpI_15, mpI_22, mlI_0 hA, mlI_3 hA, mlI_12 hA, mlI_13 hA, mlI_14 hA, mlI_16 hA, mlI_17 hA, mlI_18 hA, mlI_19 hA, mlI_20 hA, mlI_21 hA, msI_0 hA, msI_3 hA, msI_12 hA, msI_13 hA, msI_14 hA, msI_16 hA, msI_17 hA, msI_18 hA, msI_19 hA, msI_20 hA, msI_21 hA, mlZ_2 hA, mlZ_7 hA, msZ_2 hA, msZ_7 hA, kI_some, kL_some, kR_some, kV_none, ne_eq, not_true_eq_false, not_false_eq_true, true_implies, false_implies, implies_true, true_and, and_true, ab_z01, or_true, true_or, reduceCtorEq, Option.some.injEq, Int.reduceEq, Int.reduceNe, Int.reduceLT, Int.reduceLE, Int.reduceNeg, Int.reduceAdd, Int.reduceSub, Int.reduceMul, Nat.reduceEqDiff, Nat.reduceAdd, Nat.reduceMul, Int.reduceToNat, ↓reduceIte]
      · refine kf s' ?_ _ _ ((hE4.tr hE5).mono NS_PS) (pF_of (hp4.mv hE5) ht5)
        unfold psLaw4
        rcases hs with ⟨q1, q2, q3, q4⟩ | ⟨q1, q2, q3⟩
        · rw [if_neg q1, if_neg q2, if_neg q3, q4]
        · rcases q1 with q1 | q1
          · rw [if_neg (by omega), if_pos q1]
            unfold psLaw5
            rw [if_pos q2, q3]
          · rw [if_neg (by omega), if_neg (by omega), if_pos q1]
            unfold psLaw5
            rw [if_pos q2, q3]
      have hp5 := hp4.mv hE5
      have hE5 := hE4.tr hE5
      have zb : (v = 0 ∧ z = -1) ∨ ((v = 1 ∨ v = 2) ∧ 0 ≤ z ∧ z ≤ 25) := by
        have := sndH_b (T := T) (L := L) (s := nx T L s4)
        rcases hv with q | q
        · exact Or.inl ⟨q.2.1, q.2.2.1⟩
        · refine Or.inr ⟨?_, ?_⟩
          · rcases q.1 with q | q
            · exact Or.inl q.2.2
            · exact Or.inr q.2.2
          · omega
      have k5 : psLaw4 T L W (tn : Int) dd x y s4 = (some (insW W (nl W) (posL W (tn : Int) dd (nl W)) (lfs (tn : Int) dd x y v z)), s') := by
        unfold psLaw4
        rcases hv with ⟨q1, q2, q3, q4⟩ | ⟨q1, q2, q3, q4⟩
        · rw [if_pos q1, q2, q3, q4]
        · rcases q1 with q1 | q1
          · rw [if_neg (by omega), if_pos ⟨q1.1, q1.2.1⟩]
            unfold psLaw5
            rw [if_neg q2, q3, q4, q1.2.2]
          · rw [if_neg (by omega), if_neg (by omega), if_pos ⟨q1.1, q1.2.1⟩]
            unfold psLaw5
            rw [if_neg q2, q3, q4, q1.2.2]
      have kk := kk _ _ k5
      have w0' : ar5 12 0 = (tn : Int) := by rw [f5, if_neg (by decide), if_neg (by decide), f4, if_neg (by decide), f3, if_neg (by decide), f2, if_neg (by decide)]; exact z10
      have w1' : ar5 12 1 = dd := by rw [f5, if_neg (by decide), if_neg (by decide), f4, if_neg (by decide), f3, if_neg (by decide), f2, if_pos rfl]
      have w2' : ar5 12 2 = x := by rw [f5, if_neg (by decide), if_neg (by decide), f4, if_neg (by decide)]; exact z32
      have w3' : ar5 12 3 = y := by rw [f5, if_neg (by decide), if_neg (by decide), f4, if_pos rfl]
      have w4' : ar5 12 4 = v := by rw [f5, if_neg (by decide), if_pos rfl]
      have w5' : ar5 12 5 = z := by rw [f5, if_pos rfl]
      simp only [w0', w1', w2', w3', w4', w5', hp5.2.1, hp5.1]
      rw [show (100 * (tn : Int) + dd).toNat = 100 * tn + dn by omega]
      repeat (first | refine And.intro (by omega) ?_ | refine And.intro (i3 (by omega) (by omega)) ?_)
      -- what is told now
      have hW := wV_ins hw hn (lawV_ps c (show 1 ≤ dd ∧ dd ≤ 99 from c1) (by omega) yb.1 yb.2 zb) (by rw [hb]; decide)
      have told : ∀ ar' : Nat → Nat → Int, (∀ j, ar' 7 j = if j = 100 * tn + dn then 1 else ar5 7 j) → ∀ t' d' : Nat, t' < 4 → d' < 100 → ar' 7 (100 * t' + d') = b2i (hasL (insW W (nl W) (posL W (tn : Int) dd (nl W)) (lfs (tn : Int) dd x y v z)) (t' : Int) (d' : Int) (nl (insW W (nl W) (posL W (tn : Int) dd (nl W)) (lfs (tn : Int) dd x y v z)))) := by
        intro ar' h7 t' d' ht' hd'
        rw [h7, hW.2.1]
        have hi := hasL_ins (W := W) (n := nl W) (f := lfs (tn : Int) dd x y v z) (posL_le W (tn : Int) dd (nl W)) (t := (t' : Int)) (d := (d' : Int))
        by_cases q : 100 * t' + d' = 100 * tn + dn
        · rw [if_pos q, b2i_t (hi.mpr (Or.inr ⟨show (tn : Int) = (t' : Int) by omega, show dd = (d' : Int) by omega⟩))]
        · rw [if_neg q, hp5.2.2.2.1 t' d' ht' hd']
          by_cases q2 : hasL W (t' : Int) (d' : Int) (nl W) = true
          · rw [b2i_t q2, b2i_t (hi.mpr (Or.inl q2))]
          · rw [b2i_f q2, b2i_f]
            intro q3
            rcases hi.mp q3 with q4 | q4
            · exact q2 q4
            · have a1 : (tn : Int) = (t' : Int) := q4.1
              have a2 : dd = (d' : Int) := q4.2
              omega
      have E5 : mE PSs sc ar (va_up sc5 8 (W 0 + 1)) (va_up ar5 7 (va_up (ar5 7) (100 * tn + dn) 1)) := ((hE5.mono NS_PS).sc (by decide)).ar (by decide)
      have t5 : ∀ ar' : Nat → Nat → Int, ar' 3 = ar5 3 → tk T L (va_up sc5 8 (W 0 + 1)) ar' s' := fun ar' h3 => ⟨by rw [vu_ne (by decide)]; exact ht5.1, h3.trans ht5.2.1, ht5.2.2.1, by rw [vu_ne (by decide)]; exact ht5.2.2.2.1, by rw [vu_ne (by decide)]; exact ht5.2.2.2.2⟩
      have c0 : insW W (nl W) (posL W (tn : Int) dd (nl W)) (lfs (tn : Int) dd x y v z) 0 = W 0 + 1 := ins_0
      have c1' : insW W (nl W) (posL W (tn : Int) dd (nl W)) (lfs (tn : Int) dd x y v z) 1 = W 1 := ins_out (posL_le _ _ _ _) hn (Or.inl rfl)
      cases g with
      | false =>
        refine ⟨fun _ => ?_, fun z => absurd rfl z⟩
        refine kk _ _ E5 (t5 _ (vu_ne (by decide))) ⟨by rw [vu_ne (by decide)]; exact hp5.1, by rw [vu_same, c0], by rw [vu_ne (by decide), c1']; exact hp5.2.2.1, told _ (fun j => by rw [vu_same, vu_app]), ?_⟩
        rw [vu_ne (by decide)]
        exact hp5.2.2.2.2
      | true =>
        refine ⟨fun z => absurd z (by decide), fun _ => ?_⟩
        have a0 : ar5 0 = W := hp5.2.2.2.2
        refine mc_puts hA (by rw [vu_ne (by decide), a0]; exact hw.1) (by rw [vu_ne (by decide), a0]; exact hn) ?_
        simp only [kI_some, kL_some, kR_some, kV_none, ne_eq, not_true_eq_false, not_false_eq_true, true_implies, false_implies, implies_true, true_and, and_true, ab_z01, or_true, true_or, reduceCtorEq, Option.some.injEq, Int.reduceEq, Int.reduceNe, Int.reduceLT, Int.reduceLE, Int.reduceNeg, Int.reduceAdd, Int.reduceSub, Int.reduceMul, Nat.reduceEqDiff, Nat.reduceAdd, Nat.reduceMul, Int.reduceToNat, ↓reduceIte]
        rw [vu_ne (by decide), a0]
        refine kk _ _ (E5.ar (by decide)) (t5 _ (by rw [vu_ne (by decide), vu_ne (by decide)])) ⟨by rw [vu_ne (by decide)]; exact hp5.1, by rw [vu_same, c0], by rw [vu_ne (by decide), c1']; exact hp5.2.2.1, told _ (fun j => by rw [vu_ne (by decide), vu_same, vu_app]), ?_⟩
        rw [vu_same]
        rfl
  · exact kf1 (fun z => c1 z.1) _ _ (hE1.mono NS_PS) (pF_of hp1 ht1)
