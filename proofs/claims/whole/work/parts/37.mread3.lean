set_option maxRecDepth 100000 in
set_option maxHeartbeats 4000000 in
theorem mc_two {d : Nat} {h : AbH} {m : Nat} {ad : Nat → Nat} {sc : Nat → Int} {ar : Nat → Nat → Int} {K : Option AbV → AbH → Prop} (hA : mA ad) {T : Nat → Int} {L s : Nat} {md : Nat} (hT : txV T L) (ht : tk T L sc ar s) {G : Int → Int → Nat → Option (Nat → Int) × Nat} {X : AbH → Prop} {Y : AbH → Prop} (kf : ∀ s', psTwo T L G s = (none, s') → ∀ sc' ar', mE NS sc ar sc' ar' → tk T L sc' ar' s' → X (mH h m ad sc' ar')) (kk : ∀ (f t : Nat), f ≤ 3 → t ≤ 3 → f ≠ t → psTwo T L G s = G (f : Int) (t : Int) (nx T L (nx T L s)) → ∀ sc' ar', mE NS sc ar sc' ar' → ar' 12 0 = (f : Int) → ar' 12 1 = (t : Int) → tk T L sc' ar' (nx T L (nx T L s)) → Y (mH h m ad sc' ar')) : Vm (d + 4) m_X10_number [vR (some m), vI 0, vI 0, vI 3, vI (-1)] (mH h m ad sc ar) (kI (fun n2 h1 => ((n2 = 0 → X h1) ∧ (¬ (n2 = 0) → wpGR h1 (some m) 9 12 (fun r3 => wpLI h1 r3 0 (fun n4 => wpCV h1 (some m) 9 (fun b38 => Vm (d + 4) m_X10_number [vR (some b38), vI 1, vI 0, vI 3, vI n4] h1 (kI (fun n6 h5 => ((n6 = 0 → X h5) ∧ (¬ (n6 = 0) → Y h5))))))))))) := by
  refine mcn_number hA hT ht (i := 0) (by decide) (by decide) (fun c => ?_) (fun c sc1 ar1 hE1 f1 ht1 => ?_) <;> simp only [mCV, kI_some, kL_some, kR_some, kV_none, vu_app, mgR_0, mgR_3, mgR_12, mgR_13, mgR_14, mgR_16, mgR_17, mgR_18, mgR_19, mgR_20, mgR_21, mgR_2, mgR_7, mgI_1, mgI_4, mgI_5, mgI_6, mgI_8, mgI_9, mgI_10, mgI_11, mgI_15, mgI_22, mpI_1, mpI_4, mpI_5, mpI_6, mpI_8, mpI_9, mpI_10, mpI_11, mpI_15, mpI_22, mlI_0 hA, mlI_3 hA, mlI_12 hA, mlI_13 hA, mlI_14 hA, mlI_16 hA, mlI_17 hA, mlI_18 hA, mlI_19 hA, mlI_20 hA, mlI_21 hA, msI_0 hA, msI_3 hA, msI_12 hA, msI_13 hA, msI_14 hA, msI_16 hA, msI_17 hA, msI_18 hA, msI_19 hA, msI_20 hA, msI_21 hA, mlZ_2 hA, mlZ_7 hA, msZ_2 hA, msZ_7 hA, kI_some, kL_some, kR_some, kV_none, ne_eq, not_true_eq_false, not_false_eq_true, true_implies, false_implies, implies_true, true_and, and_true, ab_z01, or_true, true_or, reduceCtorEq, Option.some.injEq, Int.reduceEq, Int.reduceNe, Int.reduceLT, Int.reduceLE, Int.reduceNeg, Int.reduceAdd, Int.reduceSub, Int.reduceMul, Nat.reduceEqDiff, Nat.reduceAdd, Nat.reduceMul, Int.reduceToNat, ↓reduceIte]
  · exact kf s (by unfold psTwo; rw [if_neg (by omega)]) _ _ mE.rf ht
  · have k1 : psTwo T L G s = psTwo1 T L (numH T L s) G (nx T L s) := by unfold psTwo; rw [if_pos c.1]
    rw [k1] at kf kk
    obtain ⟨f, hf⟩ := Int.eq_ofNat_of_zero_le c.1.1
    rw [hf] at f1 kf kk c
    have z10 : ar1 12 0 = (f : Int) := by rw [f1, if_pos rfl]
    rw [z10]
    refine mcn_number hA hT ht1 (i := 1) (by decide) (by decide) (fun c2 => ?_) (fun c2 sc2 ar2 hE2 f2 ht2 => ?_) <;> simp only [mCV, kI_some, kL_some, kR_some, kV_none, vu_app, mgR_0, mgR_3, mgR_12, mgR_13, mgR_14, mgR_16, mgR_17, mgR_18, mgR_19, mgR_20, mgR_21, mgR_2, mgR_7, mgI_1, mgI_4, mgI_5, mgI_6, mgI_8, mgI_9, mgI_10, mgI_11, mgI_15, mgI_22, mpI_1, mpI_4, mpI_5, mpI_6, mpI_8, mpI_9, mpI_10, mpI_11, mpI_15, mpI_22, mlI_0 hA, mlI_3 hA, mlI_12 hA, mlI_13 hA, mlI_14 hA, mlI_16 hA, mlI_17 hA, mlI_18 hA, mlI_19 hA, mlI_20 hA, mlI_21 hA, msI_0 hA, msI_3 hA, msI_12 hA, msI_13 hA, msI_14 hA, msI_16 hA, msI_17 hA, msI_18 hA, msI_19 hA, msI_20 hA, msI_21 hA, mlZ_2 hA, mlZ_7 hA, msZ_2 hA, msZ_7 hA, kI_some, kL_some, kR_some, kV_none, ne_eq, not_true_eq_false, not_false_eq_true, true_implies, false_implies, implies_true, true_and, and_true, ab_z01, or_true, true_or, reduceCtorEq, Option.some.injEq, Int.reduceEq, Int.reduceNe, Int.reduceLT, Int.reduceLE, Int.reduceNeg, Int.reduceAdd, Int.reduceSub, Int.reduceMul, Nat.reduceEqDiff, Nat.reduceAdd, Nat.reduceMul, Int.reduceToNat, ↓reduceIte]
    · exact kf _ (by unfold psTwo1; rw [if_neg c2]) _ _ hE1 ht1
    · have k2 : psTwo1 T L (f : Int) G (nx T L s) = G (f : Int) (numH T L (nx T L s)) (nx T L (nx T L s)) := by unfold psTwo1; rw [if_pos c2]
      rw [k2] at kf kk
      obtain ⟨t, ht⟩ := Int.eq_ofNat_of_zero_le c2.1.1
      rw [ht] at f2 kf kk c2
      exact kk f t (by omega) (by omega) (by omega) rfl _ _ (hE1.tr hE2) (by rw [f2, if_neg (by decide)]; exact z10) (by rw [f2, if_pos rfl]) ht2
set_option maxRecDepth 100000 in
set_option maxHeartbeats 4000000 in
theorem mc_twoL {d : Nat} {h : AbH} {m : Nat} {ad : Nat → Nat} {sc : Nat → Int} {ar : Nat → Nat → Int} {K : Option AbV → AbH → Prop} (hA : mA ad) {T : Nat → Int} {L s : Nat} {md : Nat} (hT : txV T L) (ht : tk T L sc ar s) {G : Int → Int → Nat → Option (Nat → Int) × Nat} {X : AbH → Prop} {Y : AbH → Prop} (kf : ∀ s', psTwo T L G s = (none, s') → ∀ sc' ar', mE NS sc ar sc' ar' → tk T L sc' ar' s' → X (mH h m ad sc' ar')) (kk : ∀ (f t : Nat), f ≤ 3 → t ≤ 3 → f ≠ t → psTwo T L G s = G (f : Int) (t : Int) (nx T L (nx T L s)) → ∀ sc' ar', mE NS sc ar sc' ar' → ar' 12 0 = (f : Int) → ar' 12 1 = (t : Int) → tk T L sc' ar' (nx T L (nx T L s)) → Y (mH h m ad sc' ar')) : Vm (d + 4) m_X10_number [vR (some m), vI 0, vI 0, vI 3, vI (-1)] (mH h m ad sc ar) (kI (fun n2 h1 => ((n2 = 0 → X h1) ∧ (¬ (n2 = 0) → wpGR h1 (some m) 9 12 (fun r3 => wpLI h1 r3 0 (fun n4 => wpCV h1 (some m) 9 (fun b38 => Vm (d + 4) m_X10_number [vR (some b38), vI 1, vI 0, vI 3, vI n4] h1 (kI (fun n6 h5 => ((n6 ≠ 0 → Y h5) ∧ (¬ (n6 ≠ 0) → X h5))))))))))) := by
  refine mcn_number hA hT ht (i := 0) (by decide) (by decide) (fun c => ?_) (fun c sc1 ar1 hE1 f1 ht1 => ?_) <;> simp only [mCV, kI_some, kL_some, kR_some, kV_none, vu_app, mgR_0, mgR_3, mgR_12, mgR_13, mgR_14, mgR_16, mgR_17, mgR_18, mgR_19, mgR_20, mgR_21, mgR_2, mgR_7, mgI_1, mgI_4, mgI_5, mgI_6, mgI_8, mgI_9, mgI_10, mgI_11, mgI_15, mgI_22, mpI_1, mpI_4, mpI_5, mpI_6, mpI_8, mpI_9, mpI_10, mpI_11, mpI_15, mpI_22, mlI_0 hA, mlI_3 hA, mlI_12 hA, mlI_13 hA, mlI_14 hA, mlI_16 hA, mlI_17 hA, mlI_18 hA, mlI_19 hA, mlI_20 hA, mlI_21 hA, msI_0 hA, msI_3 hA, msI_12 hA, msI_13 hA, msI_14 hA, msI_16 hA, msI_17 hA, msI_18 hA, msI_19 hA, msI_20 hA, msI_21 hA, mlZ_2 hA, mlZ_7 hA, msZ_2 hA, msZ_7 hA, kI_some, kL_some, kR_some, kV_none, ne_eq, not_true_eq_false, not_false_eq_true, true_implies, false_implies, implies_true, true_and, and_true, ab_z01, or_true, true_or, reduceCtorEq, Option.some.injEq, Int.reduceEq, Int.reduceNe, Int.reduceLT, Int.reduceLE, Int.reduceNeg, Int.reduceAdd, Int.reduceSub, Int.reduceMul, Nat.reduceEqDiff, Nat.reduceAdd, Nat.reduceMul, Int.reduceToNat, ↓reduceIte]
  · exact kf s (by unfold psTwo; rw [if_neg (by omega)]) _ _ mE.rf ht
  · have k1 : psTwo T L G s = psTwo1 T L (numH T L s) G (nx T L s) := by unfold psTwo; rw [if_pos c.1]
    rw [k1] at kf kk
    obtain ⟨f, hf⟩ := Int.eq_ofNat_of_zero_le c.1.1
    rw [hf] at f1 kf kk c
    have z10 : ar1 12 0 = (f : Int) := by rw [f1, if_pos rfl]
    rw [z10]
    refine mcn_number hA hT ht1 (i := 1) (by decide) (by decide) (fun c2 => ?_) (fun c2 sc2 ar2 hE2 f2 ht2 => ?_) <;> simp only [mCV, kI_some, kL_some, kR_some, kV_none, vu_app, mgR_0, mgR_3, mgR_12, mgR_13, mgR_14, mgR_16, mgR_17, mgR_18, mgR_19, mgR_20, mgR_21, mgR_2, mgR_7, mgI_1, mgI_4, mgI_5, mgI_6, mgI_8, mgI_9, mgI_10, mgI_11, mgI_15, mgI_22, mpI_1, mpI_4, mpI_5, mpI_6, mpI_8, mpI_9, mpI_10, mpI_11, mpI_15, mpI_22, mlI_0 hA, mlI_3 hA, mlI_12 hA, mlI_13 hA, mlI_14 hA, mlI_16 hA, mlI_17 hA, mlI_18 hA, mlI_19 hA, mlI_20 hA, mlI_21 hA, msI_0 hA, msI_3 hA, msI_12 hA, msI_13 hA, msI_14 hA, msI_16 hA, msI_17 hA, msI_18 hA, msI_19 hA, msI_20 hA, msI_21 hA, mlZ_2 hA, mlZ_7 hA, msZ_2 hA, msZ_7 hA, kI_some, kL_some, kR_some, kV_none, ne_eq, not_true_eq_false, not_false_eq_true, true_implies, false_implies, implies_true, true_and, and_true, ab_z01, or_true, true_or, reduceCtorEq, Option.some.injEq, Int.reduceEq, Int.reduceNe, Int.reduceLT, Int.reduceLE, Int.reduceNeg, Int.reduceAdd, Int.reduceSub, Int.reduceMul, Nat.reduceEqDiff, Nat.reduceAdd, Nat.reduceMul, Int.reduceToNat, ↓reduceIte]
    · exact kf _ (by unfold psTwo1; rw [if_neg c2]) _ _ hE1 ht1
    · have k2 : psTwo1 T L (f : Int) G (nx T L s) = G (f : Int) (numH T L (nx T L s)) (nx T L (nx T L s)) := by unfold psTwo1; rw [if_pos c2]
      rw [k2] at kf kk
      obtain ⟨t, ht⟩ := Int.eq_ofNat_of_zero_le c2.1.1
      rw [ht] at f2 kf kk c2
      exact kk f t (by omega) (by omega) (by omega) rfl _ _ (hE1.tr hE2) (by rw [f2, if_neg (by decide)]; exact z10) (by rw [f2, if_pos rfl]) ht2
set_option maxRecDepth 100000 in
set_option maxHeartbeats 4000000 in
theorem mc_readsMeet {d : Nat} {h : AbH} {m : Nat} {ad : Nat → Nat} {sc : Nat → Int} {ar : Nat → Nat → Int} {K : Option AbV → AbH → Prop} (hA : mA ad) {T : Nat → Int} {L s : Nat} {g : Bool} {W w0 : Nat → Int} (hT : txV T L) (ht : tk T L sc ar s) (hw : wV W) (hp : pS g W w0 sc ar) (kf : ∀ s', psTwo T L (psMeet2 T L W) s = (none, s') → ∀ sc' ar', mE PSs sc ar sc' ar' → pF g w0 s' sc' ar' → K (some (vI 0)) (mH h m ad sc' ar')) (kk : ∀ W' s', psTwo T L (psMeet2 T L W) s = (some W', s') → ∀ sc' ar', mE PSs sc ar sc' ar' → tk T L sc' ar' s' → pS g W' w0 sc' ar' → K (some (vI 1)) (mH h m ad sc' ar')) : Vm (d + 5) m_X10_readsMeet [vR (some m)] (mH h m ad sc ar) K := by
  refine Vm.intro rfl (Nat.le_of_ble_eq_true rfl) (fun _ => B_X10_readsMeet_0 ?_)
  simp only [mCV]
  refine mc_two (K := K) hA hT ht (md := 0) (G := psMeet2 T L W) (X := fun h => K (some (vI 0)) h) (fun s' e sc1 ar1 hE1 ht1 => ?_) (fun f t hf htt hft ke sc1 ar1 hE1 z0 z1 ht1 => ?_)
  · exact kf s' e _ _ (hE1.mono NS_PS) (pF_of (hp.mv hE1) ht1)
  · rw [ke] at kf kk
    have hp1 := hp.mv hE1
    obtain ⟨s2, es2⟩ : ∃ s2, s2 = nx T L (nx T L s) := ⟨_, rfl⟩
    rw [← es2] at kf kk ht1
    simp only [mCV, kI_some, kL_some, kR_some, kV_none, vu_app, mgR_0, mgR_3, mgR_12, mgR_13, mgR_14, mgR_16, mgR_17, mgR_18, mgR_19, mgR_20, mgR_21, mgR_2, mgR_7, mgI_1, mgI_4, mgI_5, mgI_6, mgI_8, mgI_9, mgI_10, mgI_11, mgI_15, mgI_22, mpI_1, mpI_4, mpI_5, mpI_6, mpI_8, mpI_9, mpI_10, mpI_11, mpI_15, mpI_22, mlI_0 hA, mlI_3 hA, mlI_12 hA, mlI_13 hA, mlI_14 hA, mlI_16 hA, mlI_17 hA, mlI_18 hA, mlI_19 hA, mlI_20 hA, mlI_21 hA, msI_0 hA, msI_3 hA, msI_12 hA, msI_13 hA, msI_14 hA, msI_16 hA, msI_17 hA, msI_18 hA, msI_19 hA, msI_20 hA, msI_21 hA, mlZ_2 hA, mlZ_7 hA, msZ_2 hA, msZ_7 hA, kI_some, kL_some, kR_some, kV_none, ne_eq, not_true_eq_false, not_false_eq_true, true_implies, false_implies, implies_true, true_and, and_true, ab_z01, or_true, true_or, reduceCtorEq, Option.some.injEq, Int.reduceEq, Int.reduceNe, Int.reduceLT, Int.reduceLE, Int.reduceNeg, Int.reduceAdd, Int.reduceSub, Int.reduceMul, Nat.reduceEqDiff, Nat.reduceAdd, Nat.reduceMul, Int.reduceToNat, ↓reduceIte]
    refine mcn_number hA hT ht1 (i := 2) (by decide) (by decide) (fun c => ?_) (fun c sc2 ar2 hE2 f2 ht2 => ?_) <;> simp only [mCV, kI_some, kL_some, kR_some, kV_none, vu_app, mgR_0, mgR_3, mgR_12, mgR_13, mgR_14, mgR_16, mgR_17, mgR_18, mgR_19, mgR_20, mgR_21, mgR_2, mgR_7, mgI_1, mgI_4, mgI_5, mgI_6, mgI_8, mgI_9, mgI_10, mgI_11, mgI_15, mgI_22, mpI_1, mpI_4, mpI_5, mpI_6, mpI_8, mpI_9, mpI_10, mpI_11, mpI_15, mpI_22, mlI_0 hA, mlI_3 hA, mlI_12 hA, mlI_13 hA, mlI_14 hA, mlI_16 hA, mlI_17 hA, mlI_18 hA, mlI_19 hA, mlI_20 hA, mlI_21 hA, msI_0 hA, msI_3 hA, msI_12 hA, msI_13 hA, msI_14 hA, msI_16 hA, msI_17 hA, msI_18 hA, msI_19 hA, msI_20 hA, msI_21 hA, mlZ_2 hA, mlZ_7 hA, msZ_2 hA, msZ_7 hA, kI_some, kL_some, kR_some, kV_none, ne_eq, not_true_eq_false, not_false_eq_true, true_implies, false_implies, implies_true, true_and, and_true, ab_z01, or_true, true_or, reduceCtorEq, Option.some.injEq, Int.reduceEq, Int.reduceNe, Int.reduceLT, Int.reduceLE, Int.reduceNeg, Int.reduceAdd, Int.reduceSub, Int.reduceMul, Nat.reduceEqDiff, Nat.reduceAdd, Nat.reduceMul, Int.reduceToNat, ↓reduceIte]
    · exact kf s2 (by unfold psMeet2; rw [if_neg (by omega)]) _ _ (hE1.mono NS_PS) (pF_of hp1 ht1)
    have k2 : psMeet2 T L W (f : Int) (t : Int) s2 = psMeet3 T L W (f : Int) (t : Int) (numH T L s2) (nx T L s2) := by unfold psMeet2; rw [if_pos c.1]
    rw [k2] at kf kk
    obtain ⟨a, ha⟩ : ∃ a, a = numH T L s2 := ⟨_, rfl⟩
    rw [← ha] at f2 kf kk c
    have y2 : ar2 12 2 = a := by rw [f2, if_pos rfl]
    rw [y2]
    have hp2 := hp1.mv hE2
    have hE2 := hE1.tr hE2
    obtain ⟨s3, es3⟩ : ∃ s3, s3 = nx T L s2 := ⟨_, rfl⟩
    rw [← es3] at kf kk ht2
    refine mcn_number hA hT ht2 (i := 3) (by decide) (by omega) (fun c2 => ?_) (fun c2 sc3 ar3 hE3 f3 ht3 => ?_) <;> simp only [mCV, kI_some, kL_some, kR_some, kV_none, vu_app, mgR_0, mgR_3, mgR_12, mgR_13, mgR_14, mgR_16, mgR_17, mgR_18, mgR_19, mgR_20, mgR_21, mgR_2, mgR_7, mgI_1, mgI_4, mgI_5, mgI_6, mgI_8, mgI_9, mgI_10, mgI_11, mgI_15, mgI_22, mpI_1, mpI_4, mpI_5, mpI_6, mpI_8, mpI_9, mpI_10, mpI_11, mpI_15, mpI_22, mlI_0 hA, mlI_3 hA, mlI_12 hA, mlI_13 hA, mlI_14 hA, mlI_16 hA, mlI_17 hA, mlI_18 hA, mlI_19 hA, mlI_20 hA, mlI_21 hA, msI_0 hA, msI_3 hA, msI_12 hA, msI_13 hA, msI_14 hA, msI_16 hA, msI_17 hA, msI_18 hA, msI_19 hA, msI_20 hA, msI_21 hA, mlZ_2 hA, mlZ_7 hA, msZ_2 hA, msZ_7 hA, kI_some, kL_some, kR_some, kV_none, ne_eq, not_true_eq_false, not_false_eq_true, true_implies, false_implies, implies_true, true_and, and_true, ab_z01, or_true, true_or, reduceCtorEq, Option.some.injEq, Int.reduceEq, Int.reduceNe, Int.reduceLT, Int.reduceLE, Int.reduceNeg, Int.reduceAdd, Int.reduceSub, Int.reduceMul, Nat.reduceEqDiff, Nat.reduceAdd, Nat.reduceMul, Int.reduceToNat, ↓reduceIte]
    · exact kf s3 (by unfold psMeet3; rw [if_neg (by omega)]) _ _ (hE2.mono NS_PS) (pF_of hp2 ht2)
    have k3 : psMeet3 T L W (f : Int) (t : Int) a s3 = (some (setM W (f : Int) (t : Int) (a + 1) (numH T L s3)), nx T L s3) := by unfold psMeet3; rw [if_pos c2.1]
    have kk := kk _ _ k3
    obtain ⟨b, hb⟩ : ∃ b, b = numH T L s3 := ⟨_, rfl⟩
    rw [← hb] at f3 kk c2
    have hp3 := hp2.mv hE3
    have hE3 := hE2.tr hE3
    have w0' : ar3 12 0 = (f : Int) := by rw [f3, if_neg (by decide), f2, if_neg (by decide)]; exact z0
    have w1' : ar3 12 1 = (t : Int) := by rw [f3, if_neg (by decide), f2, if_neg (by decide)]; exact z1
    have w2' : ar3 12 2 = a := by rw [f3, if_neg (by decide)]; exact y2
    have w3' : ar3 12 3 = b := by rw [f3, if_pos rfl]
    have hS := wV_set hw (f := (f : Int)) (t := (t : Int)) (a := a + 1) (b := b) (by omega) (by omega) (Or.inr (by omega))
    have hx : ∀ j, j < 98 → setM W (f : Int) (t : Int) (a + 1) b j = W j := fun j hj => by unfold setM; rw [vu_ne (by omega), vu_ne (by omega)]
    have hasE : ∀ t' d' : Int, hasL (setM W (f : Int) (t : Int) (a + 1) b) t' d' (nl (setM W (f : Int) (t : Int) (a + 1) b)) = hasL W t' d' (nl W) := by
      intro t' d'
      rw [hS.2.1]
      have n2 := hw.nlw.2
      apply Bool.eq_iff_iff.mpr
      rw [hasL_iff, hasL_iff]
      constructor
      · rintro ⟨i, hi, q⟩
        refine ⟨i, hi, ?_⟩
        have a1 : lw (setM W (f : Int) (t : Int) (a + 1) b) i 0 = lw W i 0 := hx _ (by omega)
        have a2 : lw (setM W (f : Int) (t : Int) (a + 1) b) i 1 = lw W i 1 := hx _ (by omega)
        rw [a1, a2] at q
        exact q
      · rintro ⟨i, hi, q⟩
        refine ⟨i, hi, ?_⟩
        have a1 : lw (setM W (f : Int) (t : Int) (a + 1) b) i 0 = lw W i 0 := hx _ (by omega)
        have a2 : lw (setM W (f : Int) (t : Int) (a + 1) b) i 1 = lw W i 1 := hx _ (by omega)
        rw [a1, a2]
        exact q
    have hpn : ∀ ar', ar' 7 = ar3 7 → (ar' 0 = if g = true then setM W (f : Int) (t : Int) (a + 1) b else w0) → pS g (setM W (f : Int) (t : Int) (a + 1) b) w0 sc3 ar' := fun ar' h7 h0 => ⟨hp3.1, by rw [hx 0 (by decide)]; exact hp3.2.1, by rw [hx 1 (by decide)]; exact hp3.2.2.1, fun t' d' ht' hd' => by rw [hasE, h7]; exact hp3.2.2.2.1 t' d' ht' hd', h0⟩
    simp only [hp3.1, w0', w1', w2', w3']
    cases g with
    | false => exact ⟨fun _ => kk _ _ (hE3.mono NS_PS) ht3 (hpn _ rfl hp3.2.2.2.2), fun z => absurd rfl z⟩
    | true =>
      refine ⟨fun z => absurd z (by decide), fun _ => ?_⟩
      have a0 : ar3 0 = W := hp3.2.2.2.2
      refine mc_meetAt ⟨by omega, by omega⟩ ⟨by omega, by omega⟩ ?_
      simp only [mCV, kI_some, kL_some, kR_some, kV_none, vu_app, mgR_0, mgR_3, mgR_12, mgR_13, mgR_14, mgR_16, mgR_17, mgR_18, mgR_19, mgR_20, mgR_21, mgR_2, mgR_7, mgI_1, mgI_4, mgI_5, mgI_6, mgI_8, mgI_9, mgI_10, mgI_11, mgI_15, mgI_22, mpI_1, mpI_4, mpI_5, mpI_6, mpI_8, mpI_9, mpI_10, mpI_11, mpI_15, mpI_22, mlI_0 hA, mlI_3 hA, mlI_12 hA, mlI_13 hA, mlI_14 hA, mlI_16 hA, mlI_17 hA, mlI_18 hA, mlI_19 hA, mlI_20 hA, mlI_21 hA, msI_0 hA, msI_3 hA, msI_12 hA, msI_13 hA, msI_14 hA, msI_16 hA, msI_17 hA, msI_18 hA, msI_19 hA, msI_20 hA, msI_21 hA, mlZ_2 hA, mlZ_7 hA, msZ_2 hA, msZ_7 hA, kI_some, kL_some, kR_some, kV_none, ne_eq, not_true_eq_false, not_false_eq_true, true_implies, false_implies, implies_true, true_and, and_true, ab_z01, or_true, true_or, reduceCtorEq, Option.some.injEq, Int.reduceEq, Int.reduceNe, Int.reduceLT, Int.reduceLE, Int.reduceNeg, Int.reduceAdd, Int.reduceSub, Int.reduceMul, Nat.reduceEqDiff, Nat.reduceAdd, Nat.reduceMul, Int.reduceToNat, ↓reduceIte, w0', w1', w2', w3']
      repeat (first | refine And.intro (by omega) ?_ | refine And.intro (i3 (by omega) (by omega)) ?_)
      refine mc_meetAt ⟨by omega, by omega⟩ ⟨by omega, by omega⟩ ?_
      simp only [mCV, kI_some, kL_some, kR_some, kV_none, vu_app, mgR_0, mgR_3, mgR_12, mgR_13, mgR_14, mgR_16, mgR_17, mgR_18, mgR_19, mgR_20, mgR_21, mgR_2, mgR_7, mgI_1, mgI_4, mgI_5, mgI_6, mgI_8, mgI_9, mgI_10, mgI_11, mgI_15, mgI_22, mpI_1, mpI_4, mpI_5, mpI_6, mpI_8, mpI_9, mpI_10, mpI_11, mpI_15, mpI_22, mlI_0 hA, mlI_3 hA, mlI_12 hA, mlI_13 hA, mlI_14 hA, mlI_16 hA, mlI_17 hA, mlI_18 hA, mlI_19 hA, mlI_20 hA, mlI_21 hA, msI_0 hA, msI_3 hA, msI_12 hA, msI_13 hA, msI_14 hA, msI_16 hA, msI_17 hA, msI_18 hA, msI_19 hA, msI_20 hA, msI_21 hA, mlZ_2 hA, mlZ_7 hA, msZ_2 hA, msZ_7 hA, kI_some, kL_some, kR_some, kV_none, ne_eq, not_true_eq_false, not_false_eq_true, true_implies, false_implies, implies_true, true_and, and_true, ab_z01, or_true, true_or, reduceCtorEq, Option.some.injEq, Int.reduceEq, Int.reduceNe, Int.reduceLT, Int.reduceLE, Int.reduceNeg, Int.reduceAdd, Int.reduceSub, Int.reduceMul, Nat.reduceEqDiff, Nat.reduceAdd, Nat.reduceMul, Int.reduceToNat, ↓reduceIte, w0', w1', w2', w3', vu_up]
      repeat (first | refine And.intro (by omega) ?_ | refine And.intro (i3 (by omega) (by omega)) ?_)
      have e : va_up (va_up (ar3 0) (98 + 2 * (4 * (f : Int) + (t : Int))).toNat (a + 1)) (98 + 2 * (4 * (f : Int) + (t : Int)) + 1).toNat b = setM W (f : Int) (t : Int) (a + 1) b := by
        unfold setM
        rw [a0, show (98 + 2 * (4 * (f : Int) + (t : Int))).toNat = 98 + 2 * (4 * (f : Int).toNat + (t : Int).toNat) by omega, show (98 + 2 * (4 * (f : Int) + (t : Int)) + 1).toNat = 98 + 2 * (4 * (f : Int).toNat + (t : Int).toNat) + 1 by omega]
      rw [e]
      exact kk _ _ ((hE3.mono NS_PS).ar (by decide)) ⟨ht3.1, (vu_ne (by decide)).trans ht3.2.1, ht3.2.2⟩ (hpn _ (vu_ne (by decide)) vu_same)
def wrR (R : Nat → Int) (a n : Nat) (T : Nat → Int) (s : Nat) : Nat → Int := fun j => if a ≤ j ∧ j < a + n then T (s + (j - a)) - 97 else R j
def wrA (g : Bool) (ar : Nat → Nat → Int) (a n : Nat) (T : Nat → Int) (s : Nat) : Nat → Nat → Int := if g = true then va_up ar 0 (wrR (ar 0) a n T s) else ar
set_option maxRecDepth 100000 in
set_option maxHeartbeats 4000000 in
theorem mc_rowOf {d : Nat} {h : AbH} {m : Nat} {ad : Nat → Nat} {sc : Nat → Int} {ar : Nat → Nat → Int} {K : Option AbV → AbH → Prop} (hA : mA ad) {T : Nat → Int} {L s q a : Nat} {g : Bool} (hT : txV T L) (ht : tk T L sc ar s) (hg : sc 11 = b2i g) (ha : a + q ≤ 4334) (hq : q ≤ 10) (kf : ¬ (s < L ∧ (97 ≤ T s ∧ T s ≤ 122) ∧ tkE T L s ≤ s + q) → K (some (vI 0)) (mH h m ad sc ar)) (kk : (s < L ∧ (97 ≤ T s ∧ T s ≤ 122) ∧ tkE T L s ≤ s + q) → ∀ sc', mE TS sc ar sc' ar → tk T L sc' (wrA g ar a (tkE T L s - s) T s) (nx T L s) → K (some (vI ((tkE T L s - s : Nat) : Int))) (mH h m ad sc' (wrA g ar a (tkE T L s - s) T s))) : Vm (d + 4) m_X10_rowOf [vR (some m), vI (q : Int), vI (a : Int)] (mH h m ad sc ar) K := by
  obtain ⟨h4, h3, hs, h5, h6⟩ := id ht
  obtain ⟨hL, hb⟩ := id hT
  have hE := tkE_le (T := T) hs
  refine Vm.intro rfl (Nat.le_of_ble_eq_true rfl) (fun _ => B_X10_rowOf_0 ?_)
  simp only [mCV, kI_some, kL_some, kR_some, kV_none, vu_app, mgR_0, mgR_3, mgR_12, mgR_13, mgR_14, mgR_16, mgR_17, mgR_18, mgR_19, mgR_20, mgR_21, mgR_2, mgR_7, mgI_1, mgI_4, mgI_5, mgI_6, mgI_8, mgI_9, mgI_10, mgI_11, mgI_15, mgI_22, mpI_1, mpI_4, mpI_5, mpI_6, mpI_8, mpI_9, mpI_10, mpI_11, mpI_15, mpI_22, mlI_0 hA, mlI_3 hA, mlI_12 hA, mlI_13 hA, mlI_14 hA, mlI_16 hA, mlI_17 hA, mlI_18 hA, mlI_19 hA, mlI_20 hA, mlI_21 hA, msI_0 hA, msI_3 hA, msI_12 hA, msI_13 hA, msI_14 hA, msI_16 hA, msI_17 hA, msI_18 hA, msI_19 hA, msI_20 hA, msI_21 hA, mlZ_2 hA, mlZ_7 hA, msZ_2 hA, msZ_7 hA, kI_some, kL_some, kR_some, kV_none, ne_eq, not_true_eq_false, not_false_eq_true, true_implies, false_implies, implies_true, true_and, and_true, ab_z01, or_true, true_or, reduceCtorEq, Option.some.injEq, Int.reduceEq, Int.reduceNe, Int.reduceLT, Int.reduceLE, Int.reduceNeg, Int.reduceAdd, Int.reduceSub, Int.reduceMul, Nat.reduceEqDiff, Nat.reduceAdd, Nat.reduceMul, Int.reduceToNat, ↓reduceIte, h4, h5, h3, h6, Int.toNat_natCast]
  refine ⟨fun c => kf (by omega), fun c => ?_⟩
  repeat (first | refine And.intro (by omega) ?_ | refine And.intro (i3 (by omega) (by omega)) ?_)
  refine mc_isSmall (fun c1 => ?_) (fun c1 => ?_) <;> simp only [mCV, kI_some, kL_some, kR_some, kV_none, vu_app, mgR_0, mgR_3, mgR_12, mgR_13, mgR_14, mgR_16, mgR_17, mgR_18, mgR_19, mgR_20, mgR_21, mgR_2, mgR_7, mgI_1, mgI_4, mgI_5, mgI_6, mgI_8, mgI_9, mgI_10, mgI_11, mgI_15, mgI_22, mpI_1, mpI_4, mpI_5, mpI_6, mpI_8, mpI_9, mpI_10, mpI_11, mpI_15, mpI_22, mlI_0 hA, mlI_3 hA, mlI_12 hA, mlI_13 hA, mlI_14 hA, mlI_16 hA, mlI_17 hA, mlI_18 hA, mlI_19 hA, mlI_20 hA, mlI_21 hA, msI_0 hA, msI_3 hA, msI_12 hA, msI_13 hA, msI_14 hA, msI_16 hA, msI_17 hA, msI_18 hA, msI_19 hA, msI_20 hA, msI_21 hA, mlZ_2 hA, mlZ_7 hA, msZ_2 hA, msZ_7 hA, kI_some, kL_some, kR_some, kV_none, ne_eq, not_true_eq_false, not_false_eq_true, true_implies, false_implies, implies_true, true_and, and_true, ab_z01, or_true, true_or, reduceCtorEq, Option.some.injEq, Int.reduceEq, Int.reduceNe, Int.reduceLT, Int.reduceLE, Int.reduceNeg, Int.reduceAdd, Int.reduceSub, Int.reduceMul, Nat.reduceEqDiff, Nat.reduceAdd, Nat.reduceMul, Int.reduceToNat, ↓reduceIte, h4, h5, h3, h6]
  · refine ⟨i3 (by omega) (by omega), fun c2 => ⟨i3 (by omega) (by omega), ?_⟩, fun c2 => kf (by omega)⟩
    have kk := kk ⟨by omega, c1, by omega⟩
    obtain ⟨n, hn⟩ : ∃ n, n = tkE T L s - s := ⟨_, rfl⟩
    rw [← hn] at kk
    rw [show (tkE T L s : Int) - (s : Int) = (n : Int) by omega]
    have fin : ∀ ar', ar' = wrA g ar a n T s → Vm (d + 3) m_X10_nextToken [vR (some m)] (mH h m ad sc ar') (kV (fun h1 => K (some (vI (n : Int))) h1)) := by
      intro ar' e
      have e3 : ar' 3 = T := by
        rw [e]
        unfold wrA
        split
        · rw [vu_ne (by decide)]; exact h3
        · exact h3
      refine mc_nextToken hA hT h4 e3 h6 hE.2.1 (fun sc' hE' htk => ?_)
      simp only [kI_some, kL_some, kR_some, kV_none, ne_eq, not_true_eq_false, not_false_eq_true, true_implies, false_implies, implies_true, true_and, and_true, ab_z01, or_true, true_or, reduceCtorEq, Option.some.injEq, Int.reduceEq, Int.reduceNe, Int.reduceLT, Int.reduceLE, Int.reduceNeg, Int.reduceAdd, Int.reduceSub, Int.reduceMul, Nat.reduceEqDiff, Nat.reduceAdd, Nat.reduceMul, Int.reduceToNat, ↓reduceIte]
      rw [e] at htk ⊢
      exact kk sc' ⟨hE'.1, fun _ _ => rfl⟩ htk
    cases g with
    | false =>
      refine B_X10_rowOf_54 ?_
      simp only [mCV, kI_some, kL_some, kR_some, kV_none, vu_app, mgR_0, mgR_3, mgR_12, mgR_13, mgR_14, mgR_16, mgR_17, mgR_18, mgR_19, mgR_20, mgR_21, mgR_2, mgR_7, mgI_1, mgI_4, mgI_5, mgI_6, mgI_8, mgI_9, mgI_10, mgI_11, mgI_15, mgI_22, mpI_1, mpI_4, mpI_5, mpI_6, mpI_8, mpI_9, mpI_10, mpI_11, mpI_15, mpI_22, mlI_0 hA, mlI_3 hA, mlI_12 hA, mlI_13 hA, mlI_14 hA, mlI_16 hA, mlI_17 hA, mlI_18 hA, mlI_19 hA, mlI_20 hA, mlI_21 hA, msI_0 hA, msI_3 hA, msI_12 hA, msI_13 hA, msI_14 hA, msI_16 hA, msI_17 hA, msI_18 hA, msI_19 hA, msI_20 hA, msI_21 hA, mlZ_2 hA, mlZ_7 hA, msZ_2 hA, msZ_7 hA, kI_some, kL_some, kR_some, kV_none, ne_eq, not_true_eq_false, not_false_eq_true, true_implies, false_implies, implies_true, true_and, and_true, ab_z01, or_true, true_or, reduceCtorEq, Option.some.injEq, Int.reduceEq, Int.reduceNe, Int.reduceLT, Int.reduceLE, Int.reduceNeg, Int.reduceAdd, Int.reduceSub, Int.reduceMul, Nat.reduceEqDiff, Nat.reduceAdd, Nat.reduceMul, Int.reduceToNat, ↓reduceIte, hg]
      exact ⟨fun _ => fin ar rfl, fun _ => ⟨fun _ => fin ar rfl, fun z => absurd rfl z⟩⟩
    | true =>
      have P := lp_up (P := fun i => Vx (d + 4) m_X10_rowOf 0 0 54 [some (vR (some m)), some (vI (q : Int)), some (vI (a : Int)), some (vI (n : Int)), some (vI (i : Int))] [] (mH h m ad sc (va_up ar 0 (wrR (ar 0) a i T s))) K) (n := n) ?_ ?_ 0 (by omega)
      · have e : va_up ar 0 (wrR (ar 0) a 0 T s) = ar := by
          rw [show wrR (ar 0) a 0 T s = ar 0 from funext fun j => if_neg (by omega), vu_self]
        rw [e] at P
        exact P
      · refine B_X10_rowOf_54 ?_
        simp only [mCV, kI_some, kL_some, kR_some, kV_none, vu_app, mgR_0, mgR_3, mgR_12, mgR_13, mgR_14, mgR_16, mgR_17, mgR_18, mgR_19, mgR_20, mgR_21, mgR_2, mgR_7, mgI_1, mgI_4, mgI_5, mgI_6, mgI_8, mgI_9, mgI_10, mgI_11, mgI_15, mgI_22, mpI_1, mpI_4, mpI_5, mpI_6, mpI_8, mpI_9, mpI_10, mpI_11, mpI_15, mpI_22, mlI_0 hA, mlI_3 hA, mlI_12 hA, mlI_13 hA, mlI_14 hA, mlI_16 hA, mlI_17 hA, mlI_18 hA, mlI_19 hA, mlI_20 hA, mlI_21 hA, msI_0 hA, msI_3 hA, msI_12 hA, msI_13 hA, msI_14 hA, msI_16 hA, msI_17 hA, msI_18 hA, msI_19 hA, msI_20 hA, msI_21 hA, mlZ_2 hA, mlZ_7 hA, msZ_2 hA, msZ_7 hA, kI_some, kL_some, kR_some, kV_none, ne_eq, not_true_eq_false, not_false_eq_true, true_implies, false_implies, implies_true, true_and, and_true, ab_z01, or_true, true_or, reduceCtorEq, Option.some.injEq, Int.reduceEq, Int.reduceNe, Int.reduceLT, Int.reduceLE, Int.reduceNeg, Int.reduceAdd, Int.reduceSub, Int.reduceMul, Nat.reduceEqDiff, Nat.reduceAdd, Nat.reduceMul, Int.reduceToNat, ↓reduceIte, hg]
        exact ⟨fun _ => fin _ (if_pos rfl).symm, fun z => absurd (Int.le_refl _) z⟩
      · intro i hi ih
        refine B_X10_rowOf_54 ?_
        simp only [mCV, kI_some, kL_some, kR_some, kV_none, vu_app, mgR_0, mgR_3, mgR_12, mgR_13, mgR_14, mgR_16, mgR_17, mgR_18, mgR_19, mgR_20, mgR_21, mgR_2, mgR_7, mgI_1, mgI_4, mgI_5, mgI_6, mgI_8, mgI_9, mgI_10, mgI_11, mgI_15, mgI_22, mpI_1, mpI_4, mpI_5, mpI_6, mpI_8, mpI_9, mpI_10, mpI_11, mpI_15, mpI_22, mlI_0 hA, mlI_3 hA, mlI_12 hA, mlI_13 hA, mlI_14 hA, mlI_16 hA, mlI_17 hA, mlI_18 hA, mlI_19 hA, mlI_20 hA, mlI_21 hA, msI_0 hA, msI_3 hA, msI_12 hA, msI_13 hA, msI_14 hA, msI_16 hA, msI_17 hA, msI_18 hA, msI_19 hA, msI_20 hA, msI_21 hA, mlZ_2 hA, mlZ_7 hA, msZ_2 hA, msZ_7 hA, kI_some, kL_some, kR_some, kV_none, ne_eq, not_true_eq_false, not_false_eq_true, true_implies, false_implies, implies_true, true_and, and_true, ab_z01, or_true, true_or, reduceCtorEq, Option.some.injEq, Int.reduceEq, Int.reduceNe, Int.reduceLT, Int.reduceLE, Int.reduceNeg, Int.reduceAdd, Int.reduceSub, Int.reduceMul, Nat.reduceEqDiff, Nat.reduceAdd, Nat.reduceMul, Int.reduceToNat, ↓reduceIte, hg, h5, h3, vu_up]
        refine ⟨fun z => absurd z (by omega), fun _ => ⟨fun z => absurd z (by decide), fun _ => ?_⟩⟩
        have hti : 97 ≤ T (s + i) ∧ T (s + i) ≤ 122 := kd_1.mp ((tkE_in (T := T) (L := L) (s := s) (j := s + i) (by omega) (by omega)).trans (kd_1.mpr c1))
        rw [show ((s : Int) + (i : Int)).toNat = s + i by omega, show ((a : Int) + (i : Int)).toNat = a + i by omega]
        repeat (first | refine And.intro (by omega) ?_ | refine And.intro (i3 (by omega) (by omega)) ?_)
        have e : va_up (wrR (ar 0) a i T s) (a + i) (T (s + i) - 97) = wrR (ar 0) a (i + 1) T s := by
          funext j
          rw [vu_app]
          unfold wrR
          by_cases q1 : j = a + i
          · rw [if_pos q1, if_pos (by omega), q1, show a + i - a = i by omega]
          · rw [if_neg q1]
            by_cases q2 : a ≤ j ∧ j < a + i
            · rw [if_pos q2, if_pos (by omega)]
            · rw [if_neg q2, if_neg (by omega)]
        rw [e]
        exact ih
  · exact kf (fun z => c1 z.2.1)
