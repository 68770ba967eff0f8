set_option maxRecDepth 100000 in
set_option maxHeartbeats 4000000 in
theorem mc_goes {d : Nat} {h : AbH} {m : Nat} {ad : Nat → Nat} {sc : Nat → Int} {ar : Nat → Nat → Int} {K : Option AbV → AbH → Prop} (hA : mA ad) {t dd e : Int} {l : List Int} (hw : wL (ar 0)) (hl : fV l) (hM : MF sc ar l) (kk : ∀ sc' ar', mE FS sc ar sc' ar' → MF sc' ar' (dev (ar 0) t dd e l) → K none (mH h m ad sc' ar')) : Vm (d + 4) m_X10_goes [vR (some m), vI t, vI dd, vI e] (mH h m ad sc ar) K := by
  obtain ⟨n1, n2⟩ := hw.nlw
  refine Vm.intro rfl (Nat.le_of_ble_eq_true rfl) (fun _ => B_X10_goes_0 ?_)
  refine lp_up (P := fun i => ∀ sc' ar', mE FS sc ar sc' ar' → MF sc' ar' (devN (ar 0) t dd e l i) → Vx (d + 4) m_X10_goes 0 0 3 [some (vR (some m)), some (vI t), some (vI dd), some (vI e), some (vI (i : Int))] [] (mH h m ad sc' ar') K) (n := nl (ar 0)) ?_ ?_ 0 (by omega) sc ar mE.rf hM
  · intro sc' ar' hE hF
    have e0 : ar' 0 = ar 0 := hE.2 0 (by decide)
    refine B_X10_goes_3 ?_
    simp only [mCV, kI_some, kL_some, kR_some, kV_none, vu_app, mgR_0, mgR_3, mgR_12, mgR_13, mgR_14, mgR_16, mgR_17, mgR_18, mgR_19, mgR_20, mgR_21, mgR_2, mgR_7, mgI_1, mgI_4, mgI_5, mgI_6, mgI_8, mgI_9, mgI_10, mgI_11, mgI_15, mgI_22, mpI_1, mpI_4, mpI_5, mpI_6, mpI_8, mpI_9, mpI_10, mpI_11, mpI_15, mpI_22, mlI_0 hA, mlI_3 hA, mlI_12 hA, mlI_13 hA, mlI_14 hA, mlI_16 hA, mlI_17 hA, mlI_18 hA, mlI_19 hA, mlI_20 hA, mlI_21 hA, msI_0 hA, msI_3 hA, msI_12 hA, msI_13 hA, msI_14 hA, msI_16 hA, msI_17 hA, msI_18 hA, msI_19 hA, msI_20 hA, msI_21 hA, mlZ_2 hA, mlZ_7 hA, msZ_2 hA, msZ_7 hA, kI_some, kL_some, kR_some, kV_none, ne_eq, not_true_eq_false, not_false_eq_true, true_implies, false_implies, implies_true, true_and, and_true, ab_z01, or_true, true_or, reduceCtorEq, Option.some.injEq, Int.reduceEq, Int.reduceNe, Int.reduceLT, Int.reduceLE, Int.reduceNeg, Int.reduceAdd, Int.reduceSub, Int.reduceMul, Nat.reduceEqDiff, Nat.reduceAdd, Nat.reduceMul, Int.reduceToNat, ↓reduceIte, e0]
    exact ⟨fun _ => kk sc' ar' hE hF, fun c => absurd (by omega) c⟩
  · intro i hi ih sc' ar' hE hF
    have e0 : ar' 0 = ar 0 := hE.2 0 (by decide)
    have hs : devN (ar 0) t dd e l (i + 1) = if lw (ar 0) i 0 = t ∧ dd < lw (ar 0) i 1 ∧ lw (ar 0) i 1 ≤ e then ap (ar 0) i (devN (ar 0) t dd e l i) else devN (ar 0) t dd e l i := rfl
    have hno : ¬ (lw (ar 0) i 0 = t ∧ dd < lw (ar 0) i 1 ∧ lw (ar 0) i 1 ≤ e) → in32 ((i : Int) + 1) ∧ Vx (d + 4) m_X10_goes 0 0 3 [some (vR (some m)), some (vI t), some (vI dd), some (vI e), some (vI ((i : Int) + 1))] [] (mH h m ad sc' ar') K := by
      intro q
      rw [if_neg q] at hs
      rw [hs] at ih
      exact ⟨i3 (by omega) (by omega), ih sc' ar' hE hF⟩
    have L0 : ∀ {K : Option AbV → AbH → Prop}, K (some (vI (lw (ar 0) i 0))) (mH h m ad sc' ar') → Vm (d + 3) m_X10_lawOf [vR (some m), vI (i : Int), vI 0] (mH h m ad sc' ar') K := fun q => mc_lawOf hA (j := 0) (by omega) (by decide) (by rw [e0]; exact q)
    have L1 : ∀ {K : Option AbV → AbH → Prop}, K (some (vI (lw (ar 0) i 1))) (mH h m ad sc' ar') → Vm (d + 3) m_X10_lawOf [vR (some m), vI (i : Int), vI 1] (mH h m ad sc' ar') K := fun q => mc_lawOf hA (j := 1) (by omega) (by decide) (by rw [e0]; exact q)
    refine B_X10_goes_3 ?_
    simp only [mCV, kI_some, kL_some, kR_some, kV_none, vu_app, mgR_0, mgR_3, mgR_12, mgR_13, mgR_14, mgR_16, mgR_17, mgR_18, mgR_19, mgR_20, mgR_21, mgR_2, mgR_7, mgI_1, mgI_4, mgI_5, mgI_6, mgI_8, mgI_9, mgI_10, mgI_11, mgI_15, mgI_22, mpI_1, mpI_4, mpI_5, mpI_6, mpI_8, mpI_9, mpI_10, mpI_11, mpI_15, mpI_22, mlI_0 hA, mlI_3 hA, mlI_12 hA, mlI_13 hA, mlI_14 hA, mlI_16 hA, mlI_17 hA, mlI_18 hA, mlI_19 hA, mlI_20 hA, mlI_21 hA, msI_0 hA, msI_3 hA, msI_12 hA, msI_13 hA, msI_14 hA, msI_16 hA, msI_17 hA, msI_18 hA, msI_19 hA, msI_20 hA, msI_21 hA, mlZ_2 hA, mlZ_7 hA, msZ_2 hA, msZ_7 hA, kI_some, kL_some, kR_some, kV_none, ne_eq, not_true_eq_false, not_false_eq_true, true_implies, false_implies, implies_true, true_and, and_true, ab_z01, or_true, true_or, reduceCtorEq, Option.some.injEq, Int.reduceEq, Int.reduceNe, Int.reduceLT, Int.reduceLE, Int.reduceNeg, Int.reduceAdd, Int.reduceSub, Int.reduceMul, Nat.reduceEqDiff, Nat.reduceAdd, Nat.reduceMul, Int.reduceToNat, ↓reduceIte, e0]
    refine ⟨fun c => absurd c (by omega), fun _ => L0 ?_⟩
    simp only [mCV, kI_some, kL_some, kR_some, kV_none, vu_app, mgR_0, mgR_3, mgR_12, mgR_13, mgR_14, mgR_16, mgR_17, mgR_18, mgR_19, mgR_20, mgR_21, mgR_2, mgR_7, mgI_1, mgI_4, mgI_5, mgI_6, mgI_8, mgI_9, mgI_10, mgI_11, mgI_15, mgI_22, mpI_1, mpI_4, mpI_5, mpI_6, mpI_8, mpI_9, mpI_10, mpI_11, mpI_15, mpI_22, mlI_0 hA, mlI_3 hA, mlI_12 hA, mlI_13 hA, mlI_14 hA, mlI_16 hA, mlI_17 hA, mlI_18 hA, mlI_19 hA, mlI_20 hA, mlI_21 hA, msI_0 hA, msI_3 hA, msI_12 hA, msI_13 hA, msI_14 hA, msI_16 hA, msI_17 hA, msI_18 hA, msI_19 hA, msI_20 hA, msI_21 hA, mlZ_2 hA, mlZ_7 hA, msZ_2 hA, msZ_7 hA, kI_some, kL_some, kR_some, kV_none, ne_eq, not_true_eq_false, not_false_eq_true, true_implies, false_implies, implies_true, true_and, and_true, ab_z01, or_true, true_or, reduceCtorEq, Option.some.injEq, Int.reduceEq, Int.reduceNe, Int.reduceLT, Int.reduceLE, Int.reduceNeg, Int.reduceAdd, Int.reduceSub, Int.reduceMul, Nat.reduceEqDiff, Nat.reduceAdd, Nat.reduceMul, Int.reduceToNat, ↓reduceIte]
    refine ⟨fun c => hno (fun q => c q.1), fun c1 => L1 ?_⟩
    simp only [mCV, kI_some, kL_some, kR_some, kV_none, vu_app, mgR_0, mgR_3, mgR_12, mgR_13, mgR_14, mgR_16, mgR_17, mgR_18, mgR_19, mgR_20, mgR_21, mgR_2, mgR_7, mgI_1, mgI_4, mgI_5, mgI_6, mgI_8, mgI_9, mgI_10, mgI_11, mgI_15, mgI_22, mpI_1, mpI_4, mpI_5, mpI_6, mpI_8, mpI_9, mpI_10, mpI_11, mpI_15, mpI_22, mlI_0 hA, mlI_3 hA, mlI_12 hA, mlI_13 hA, mlI_14 hA, mlI_16 hA, mlI_17 hA, mlI_18 hA, mlI_19 hA, mlI_20 hA, mlI_21 hA, msI_0 hA, msI_3 hA, msI_12 hA, msI_13 hA, msI_14 hA, msI_16 hA, msI_17 hA, msI_18 hA, msI_19 hA, msI_20 hA, msI_21 hA, mlZ_2 hA, mlZ_7 hA, msZ_2 hA, msZ_7 hA, kI_some, kL_some, kR_some, kV_none, ne_eq, not_true_eq_false, not_false_eq_true, true_implies, false_implies, implies_true, true_and, and_true, ab_z01, or_true, true_or, reduceCtorEq, Option.some.injEq, Int.reduceEq, Int.reduceNe, Int.reduceLT, Int.reduceLE, Int.reduceNeg, Int.reduceAdd, Int.reduceSub, Int.reduceMul, Nat.reduceEqDiff, Nat.reduceAdd, Nat.reduceMul, Int.reduceToNat, ↓reduceIte]
    refine ⟨fun c => hno (fun q => by omega), fun c2 => L1 ?_⟩
    simp only [mCV, kI_some, kL_some, kR_some, kV_none, vu_app, mgR_0, mgR_3, mgR_12, mgR_13, mgR_14, mgR_16, mgR_17, mgR_18, mgR_19, mgR_20, mgR_21, mgR_2, mgR_7, mgI_1, mgI_4, mgI_5, mgI_6, mgI_8, mgI_9, mgI_10, mgI_11, mgI_15, mgI_22, mpI_1, mpI_4, mpI_5, mpI_6, mpI_8, mpI_9, mpI_10, mpI_11, mpI_15, mpI_22, mlI_0 hA, mlI_3 hA, mlI_12 hA, mlI_13 hA, mlI_14 hA, mlI_16 hA, mlI_17 hA, mlI_18 hA, mlI_19 hA, mlI_20 hA, mlI_21 hA, msI_0 hA, msI_3 hA, msI_12 hA, msI_13 hA, msI_14 hA, msI_16 hA, msI_17 hA, msI_18 hA, msI_19 hA, msI_20 hA, msI_21 hA, mlZ_2 hA, mlZ_7 hA, msZ_2 hA, msZ_7 hA, kI_some, kL_some, kR_some, kV_none, ne_eq, not_true_eq_false, not_false_eq_true, true_implies, false_implies, implies_true, true_and, and_true, ab_z01, or_true, true_or, reduceCtorEq, Option.some.injEq, Int.reduceEq, Int.reduceNe, Int.reduceLT, Int.reduceLE, Int.reduceNeg, Int.reduceAdd, Int.reduceSub, Int.reduceMul, Nat.reduceEqDiff, Nat.reduceAdd, Nat.reduceMul, Int.reduceToNat, ↓reduceIte]
    refine ⟨fun c => hno (fun q => by omega), fun c3 => ?_⟩
    refine mc_hits hA (by rw [e0]; exact hw) (by rw [e0]; exact hi) (devN_V hw hl i (by omega)) hF (fun sc2 ar2 hE2 hF2 => ?_)
    simp only [mCV, kI_some, kL_some, kR_some, kV_none, vu_app, mgR_0, mgR_3, mgR_12, mgR_13, mgR_14, mgR_16, mgR_17, mgR_18, mgR_19, mgR_20, mgR_21, mgR_2, mgR_7, mgI_1, mgI_4, mgI_5, mgI_6, mgI_8, mgI_9, mgI_10, mgI_11, mgI_15, mgI_22, mpI_1, mpI_4, mpI_5, mpI_6, mpI_8, mpI_9, mpI_10, mpI_11, mpI_15, mpI_22, mlI_0 hA, mlI_3 hA, mlI_12 hA, mlI_13 hA, mlI_14 hA, mlI_16 hA, mlI_17 hA, mlI_18 hA, mlI_19 hA, mlI_20 hA, mlI_21 hA, msI_0 hA, msI_3 hA, msI_12 hA, msI_13 hA, msI_14 hA, msI_16 hA, msI_17 hA, msI_18 hA, msI_19 hA, msI_20 hA, msI_21 hA, mlZ_2 hA, mlZ_7 hA, msZ_2 hA, msZ_7 hA, kI_some, kL_some, kR_some, kV_none, ne_eq, not_true_eq_false, not_false_eq_true, true_implies, false_implies, implies_true, true_and, and_true, ab_z01, or_true, true_or, reduceCtorEq, Option.some.injEq, Int.reduceEq, Int.reduceNe, Int.reduceLT, Int.reduceLE, Int.reduceNeg, Int.reduceAdd, Int.reduceSub, Int.reduceMul, Nat.reduceEqDiff, Nat.reduceAdd, Nat.reduceMul, Int.reduceToNat, ↓reduceIte]
    rw [e0] at hF2
    rw [if_pos ⟨by simpa using c1, by omega, by omega⟩] at hs
    rw [hs] at ih
    exact ⟨i3 (by omega) (by omega), ih sc2 ar2 (hE.tr hE2) hF2⟩
set_option maxRecDepth 100000 in
set_option maxHeartbeats 4000000 in
theorem mc_takes {d : Nat} {h : AbH} {m : Nat} {ad : Nat → Nat} {sc : Nat → Int} {ar : Nat → Nat → Int} {K : Option AbV → AbH → Prop} (hA : mA ad) {k : Nat} {f t dd : Int} (hw : wL (ar 0)) (hk : k < 12) (hlo : loanV (ar 0) k) (kk : ∀ sc' ar', mE FS sc ar sc' ar' → MF sc' ar' (borr (ar 0) f t dd (word (ar 0) k)) → K none (mH h m ad sc' ar')) : Vm (d + 5) m_X10_takes [vR (some m), vI (k : Int), vI f, vI t, vI dd] (mH h m ad sc ar) K := by
  refine Vm.intro rfl (Nat.le_of_ble_eq_true rfl) (fun _ => B_X10_takes_0 ?_)
  simp only [mCV]
  refine mc_takesWord hA hk hlo (fun sc1 ar1 hE1 hF1 => ?_)
  have e1 : ar1 0 = ar 0 := hE1.2 0 (by decide)
  simp only [mCV, kI_some, kL_some, kR_some, kV_none, vu_app, mgR_0, mgR_3, mgR_12, mgR_13, mgR_14, mgR_16, mgR_17, mgR_18, mgR_19, mgR_20, mgR_21, mgR_2, mgR_7, mgI_1, mgI_4, mgI_5, mgI_6, mgI_8, mgI_9, mgI_10, mgI_11, mgI_15, mgI_22, mpI_1, mpI_4, mpI_5, mpI_6, mpI_8, mpI_9, mpI_10, mpI_11, mpI_15, mpI_22, mlI_0 hA, mlI_3 hA, mlI_12 hA, mlI_13 hA, mlI_14 hA, mlI_16 hA, mlI_17 hA, mlI_18 hA, mlI_19 hA, mlI_20 hA, mlI_21 hA, msI_0 hA, msI_3 hA, msI_12 hA, msI_13 hA, msI_14 hA, msI_16 hA, msI_17 hA, msI_18 hA, msI_19 hA, msI_20 hA, msI_21 hA, mlZ_2 hA, mlZ_7 hA, msZ_2 hA, msZ_7 hA, kI_some, kL_some, kR_some, kV_none, ne_eq, not_true_eq_false, not_false_eq_true, true_implies, false_implies, implies_true, true_and, and_true, ab_z01, or_true, true_or, reduceCtorEq, Option.some.injEq, Int.reduceEq, Int.reduceNe, Int.reduceLT, Int.reduceLE, Int.reduceNeg, Int.reduceAdd, Int.reduceSub, Int.reduceMul, Nat.reduceEqDiff, Nat.reduceAdd, Nat.reduceMul, Int.reduceToNat, ↓reduceIte]
  refine mc_goes hA (by rw [e1]; exact hw) (word_V hlo) hF1 (fun sc2 ar2 hE2 hF2 => ?_)
  have e2 : ar2 0 = ar 0 := (hE2.2 0 (by decide)).trans e1
  simp only [mCV, kI_some, kL_some, kR_some, kV_none, vu_app, mgR_0, mgR_3, mgR_12, mgR_13, mgR_14, mgR_16, mgR_17, mgR_18, mgR_19, mgR_20, mgR_21, mgR_2, mgR_7, mgI_1, mgI_4, mgI_5, mgI_6, mgI_8, mgI_9, mgI_10, mgI_11, mgI_15, mgI_22, mpI_1, mpI_4, mpI_5, mpI_6, mpI_8, mpI_9, mpI_10, mpI_11, mpI_15, mpI_22, mlI_0 hA, mlI_3 hA, mlI_12 hA, mlI_13 hA, mlI_14 hA, mlI_16 hA, mlI_17 hA, mlI_18 hA, mlI_19 hA, mlI_20 hA, mlI_21 hA, msI_0 hA, msI_3 hA, msI_12 hA, msI_13 hA, msI_14 hA, msI_16 hA, msI_17 hA, msI_18 hA, msI_19 hA, msI_20 hA, msI_21 hA, mlZ_2 hA, mlZ_7 hA, msZ_2 hA, msZ_7 hA, kI_some, kL_some, kR_some, kV_none, ne_eq, not_true_eq_false, not_false_eq_true, true_implies, false_implies, implies_true, true_and, and_true, ab_z01, or_true, true_or, reduceCtorEq, Option.some.injEq, Int.reduceEq, Int.reduceNe, Int.reduceLT, Int.reduceLE, Int.reduceNeg, Int.reduceAdd, Int.reduceSub, Int.reduceMul, Nat.reduceEqDiff, Nat.reduceAdd, Nat.reduceMul, Int.reduceToNat, ↓reduceIte]
  rw [e1] at hF2
  refine mc_goes hA (by rw [e2]; exact hw) (dev_V hw (word_V hlo)) hF2 (fun sc3 ar3 hE3 hF3 => ?_)
  simp only [mCV, kI_some, kL_some, kR_some, kV_none, vu_app, mgR_0, mgR_3, mgR_12, mgR_13, mgR_14, mgR_16, mgR_17, mgR_18, mgR_19, mgR_20, mgR_21, mgR_2, mgR_7, mgI_1, mgI_4, mgI_5, mgI_6, mgI_8, mgI_9, mgI_10, mgI_11, mgI_15, mgI_22, mpI_1, mpI_4, mpI_5, mpI_6, mpI_8, mpI_9, mpI_10, mpI_11, mpI_15, mpI_22, mlI_0 hA, mlI_3 hA, mlI_12 hA, mlI_13 hA, mlI_14 hA, mlI_16 hA, mlI_17 hA, mlI_18 hA, mlI_19 hA, mlI_20 hA, mlI_21 hA, msI_0 hA, msI_3 hA, msI_12 hA, msI_13 hA, msI_14 hA, msI_16 hA, msI_17 hA, msI_18 hA, msI_19 hA, msI_20 hA, msI_21 hA, mlZ_2 hA, mlZ_7 hA, msZ_2 hA, msZ_7 hA, kI_some, kL_some, kR_some, kV_none, ne_eq, not_true_eq_false, not_false_eq_true, true_implies, false_implies, implies_true, true_and, and_true, ab_z01, or_true, true_or, reduceCtorEq, Option.some.injEq, Int.reduceEq, Int.reduceNe, Int.reduceLT, Int.reduceLE, Int.reduceNeg, Int.reduceAdd, Int.reduceSub, Int.reduceMul, Nat.reduceEqDiff, Nat.reduceAdd, Nat.reduceMul, Int.reduceToNat, ↓reduceIte]
  rw [e2] at hF3
  exact kk sc3 ar3 (hE1.tr (hE2.tr hE3)) hF3
set_option maxRecDepth 100000 in
set_option maxHeartbeats 4000000 in
theorem mc_isEnd {d : Nat} {h : AbH} {m : Nat} {ad : Nat → Nat} {sc : Nat → Int} {ar : Nat → Nat → Int} {K : Option AbV → AbH → Prop} (hA : mA ad) {k : Nat} {l : List Int} (hk : k < 12) (hw : loanV (ar 0) k) (hl : fV l) (hM : MF sc ar l) (kk : K (some (vI (b2i (decide (l = wend (ar 0) k))))) (mH h m ad sc ar)) : Vm (d + 2) m_X10_isEnd [vR (some m), vI (k : Int)] (mH h m ad sc ar) K := by
  obtain ⟨l1, l2, l3, l4, l5, l6, l7⟩ := hw
  have hl10 := hl.1
  have hle : (wend (ar 0) k).length = (lo (ar 0) k 3).toNat := by unfold wend; rw [List.length_map, List.length_range]
  have bad : l ≠ wend (ar 0) k → K (some (vI 0)) (mH h m ad sc ar) := fun q => by rwa [decide_eq_false q] at kk
  have good : l = wend (ar 0) k → K (some (vI 1)) (mH h m ad sc ar) := fun q => by rwa [decide_eq_true q] at kk
  have e1 : (130 + 22 * (k : Int) + 3).toNat = 130 + 22 * k + 3 := by omega
  refine Vm.intro rfl (Nat.le_of_ble_eq_true rfl) (fun _ => B_X10_isEnd_0 ?_)
  refine mc_loanAt (by omega) ?_
  simp only [mCV, kI_some, kL_some, kR_some, kV_none, vu_app, mgR_0, mgR_3, mgR_12, mgR_13, mgR_14, mgR_16, mgR_17, mgR_18, mgR_19, mgR_20, mgR_21, mgR_2, mgR_7, mgI_1, mgI_4, mgI_5, mgI_6, mgI_8, mgI_9, mgI_10, mgI_11, mgI_15, mgI_22, mpI_1, mpI_4, mpI_5, mpI_6, mpI_8, mpI_9, mpI_10, mpI_11, mpI_15, mpI_22, mlI_0 hA, mlI_3 hA, mlI_12 hA, mlI_13 hA, mlI_14 hA, mlI_16 hA, mlI_17 hA, mlI_18 hA, mlI_19 hA, mlI_20 hA, mlI_21 hA, msI_0 hA, msI_3 hA, msI_12 hA, msI_13 hA, msI_14 hA, msI_16 hA, msI_17 hA, msI_18 hA, msI_19 hA, msI_20 hA, msI_21 hA, mlZ_2 hA, mlZ_7 hA, msZ_2 hA, msZ_7 hA, kI_some, kL_some, kR_some, kV_none, ne_eq, not_true_eq_false, not_false_eq_true, true_implies, false_implies, implies_true, true_and, and_true, ab_z01, or_true, true_or, reduceCtorEq, Option.some.injEq, Int.reduceEq, Int.reduceNe, Int.reduceLT, Int.reduceLE, Int.reduceNeg, Int.reduceAdd, Int.reduceSub, Int.reduceMul, Nat.reduceEqDiff, Nat.reduceAdd, Nat.reduceMul, Int.reduceToNat, ↓reduceIte, hM.1, e1]
  have e2 : ar 0 (130 + 22 * k + 3) = lo (ar 0) k 3 := rfl
  rw [e2]
  -- a loop that is through
  have B0 : l ≠ wend (ar 0) k → ∀ x4 : Int, Vx (d + 2) m_X10_isEnd 0 0 29 [some (vR (some m)), some (vI (k : Int)), some (vI (130 + 22 * (k : Int))), some (vI 0), some (vI x4)] [] (mH h m ad sc ar) K := by
    intro q x4
    refine B_X10_isEnd_29 ?_
    simp only [mCV, kI_some, kL_some, kR_some, kV_none, vu_app, mgR_0, mgR_3, mgR_12, mgR_13, mgR_14, mgR_16, mgR_17, mgR_18, mgR_19, mgR_20, mgR_21, mgR_2, mgR_7, mgI_1, mgI_4, mgI_5, mgI_6, mgI_8, mgI_9, mgI_10, mgI_11, mgI_15, mgI_22, mpI_1, mpI_4, mpI_5, mpI_6, mpI_8, mpI_9, mpI_10, mpI_11, mpI_15, mpI_22, mlI_0 hA, mlI_3 hA, mlI_12 hA, mlI_13 hA, mlI_14 hA, mlI_16 hA, mlI_17 hA, mlI_18 hA, mlI_19 hA, mlI_20 hA, mlI_21 hA, msI_0 hA, msI_3 hA, msI_12 hA, msI_13 hA, msI_14 hA, msI_16 hA, msI_17 hA, msI_18 hA, msI_19 hA, msI_20 hA, msI_21 hA, mlZ_2 hA, mlZ_7 hA, msZ_2 hA, msZ_7 hA, kI_some, kL_some, kR_some, kV_none, ne_eq, not_true_eq_false, not_false_eq_true, true_implies, false_implies, implies_true, true_and, and_true, ab_z01, or_true, true_or, reduceCtorEq, Option.some.injEq, Int.reduceEq, Int.reduceNe, Int.reduceLT, Int.reduceLE, Int.reduceNeg, Int.reduceAdd, Int.reduceSub, Int.reduceMul, Nat.reduceEqDiff, Nat.reduceAdd, Nat.reduceMul, Int.reduceToNat, ↓reduceIte]
    exact ⟨fun _ => bad q, fun _ => bad q⟩
  refine ⟨i3 (by omega) (by omega), by omega, by omega, fun c => B0 (fun q => c ?_) 0, fun c => ?_⟩
  · rw [q, hle]; omega
  · refine lp_up (P := fun i => (∀ j, j < i → l.getD j 0 = (wend (ar 0) k).getD j 0) → Vx (d + 2) m_X10_isEnd 0 0 29 [some (vR (some m)), some (vI (k : Int)), some (vI (130 + 22 * (k : Int))), some (vI 1), some (vI (i : Int))] [] (mH h m ad sc ar) K) (n := l.length) ?_ ?_ 0 (by omega) (fun j hj => absurd hj (by omega))
    · intro hq
      refine B_X10_isEnd_29 ?_
      simp only [mCV, kI_some, kL_some, kR_some, kV_none, vu_app, mgR_0, mgR_3, mgR_12, mgR_13, mgR_14, mgR_16, mgR_17, mgR_18, mgR_19, mgR_20, mgR_21, mgR_2, mgR_7, mgI_1, mgI_4, mgI_5, mgI_6, mgI_8, mgI_9, mgI_10, mgI_11, mgI_15, mgI_22, mpI_1, mpI_4, mpI_5, mpI_6, mpI_8, mpI_9, mpI_10, mpI_11, mpI_15, mpI_22, mlI_0 hA, mlI_3 hA, mlI_12 hA, mlI_13 hA, mlI_14 hA, mlI_16 hA, mlI_17 hA, mlI_18 hA, mlI_19 hA, mlI_20 hA, mlI_21 hA, msI_0 hA, msI_3 hA, msI_12 hA, msI_13 hA, msI_14 hA, msI_16 hA, msI_17 hA, msI_18 hA, msI_19 hA, msI_20 hA, msI_21 hA, mlZ_2 hA, mlZ_7 hA, msZ_2 hA, msZ_7 hA, kI_some, kL_some, kR_some, kV_none, ne_eq, not_true_eq_false, not_false_eq_true, true_implies, false_implies, implies_true, true_and, and_true, ab_z01, or_true, true_or, reduceCtorEq, Option.some.injEq, Int.reduceEq, Int.reduceNe, Int.reduceLT, Int.reduceLE, Int.reduceNeg, Int.reduceAdd, Int.reduceSub, Int.reduceMul, Nat.reduceEqDiff, Nat.reduceAdd, Nat.reduceMul, Int.reduceToNat, ↓reduceIte, hM.1]
      refine ⟨fun _ => good (List.ext_getElem? fun i => ?_), fun c => absurd (by omega) c⟩
      by_cases hi : i < l.length
      · have h1 := hq i hi
        rw [List.getD_eq_getElem?_getD, List.getD_eq_getElem?_getD] at h1
        have hi2 : i < (wend (ar 0) k).length := by omega
        rw [List.getElem?_eq_getElem hi, List.getElem?_eq_getElem hi2] at h1 ⊢
        exact congrArg some h1
      · rw [List.getElem?_eq_none (by omega), List.getElem?_eq_none (by omega)]
    · intro i hi ih hq
      refine B_X10_isEnd_29 ?_
      have e3 : (130 + 22 * (k : Int) + 12 + (i : Int)).toNat = 130 + 22 * k + (12 + i) := by omega
      have e4 : ar 0 (130 + 22 * k + (12 + i)) = (wend (ar 0) k).getD i 0 := by
        unfold wend
        rw [rg_getD _ _ _ (by omega)]
        rfl
      simp only [mCV, kI_some, kL_some, kR_some, kV_none, vu_app, mgR_0, mgR_3, mgR_12, mgR_13, mgR_14, mgR_16, mgR_17, mgR_18, mgR_19, mgR_20, mgR_21, mgR_2, mgR_7, mgI_1, mgI_4, mgI_5, mgI_6, mgI_8, mgI_9, mgI_10, mgI_11, mgI_15, mgI_22, mpI_1, mpI_4, mpI_5, mpI_6, mpI_8, mpI_9, mpI_10, mpI_11, mpI_15, mpI_22, mlI_0 hA, mlI_3 hA, mlI_12 hA, mlI_13 hA, mlI_14 hA, mlI_16 hA, mlI_17 hA, mlI_18 hA, mlI_19 hA, mlI_20 hA, mlI_21 hA, msI_0 hA, msI_3 hA, msI_12 hA, msI_13 hA, msI_14 hA, msI_16 hA, msI_17 hA, msI_18 hA, msI_19 hA, msI_20 hA, msI_21 hA, mlZ_2 hA, mlZ_7 hA, msZ_2 hA, msZ_7 hA, kI_some, kL_some, kR_some, kV_none, ne_eq, not_true_eq_false, not_false_eq_true, true_implies, false_implies, implies_true, true_and, and_true, ab_z01, or_true, true_or, reduceCtorEq, Option.some.injEq, Int.reduceEq, Int.reduceNe, Int.reduceLT, Int.reduceLE, Int.reduceNeg, Int.reduceAdd, Int.reduceSub, Int.reduceMul, Nat.reduceEqDiff, Nat.reduceAdd, Nat.reduceMul, Int.reduceToNat, ↓reduceIte, hM.1, e3, Int.toNat_natCast, hM.2 i hi, e4]
      refine ⟨fun c => absurd c (by omega), fun _ => ⟨by omega, by omega, i3 (by omega) (by omega), i3 (by omega) (by omega), by omega, by omega, fun c2 => ⟨i3 (by omega) (by omega), B0 (fun q => c2 (by rw [q])) _⟩, fun c2 => ⟨i3 (by omega) (by omega), ih (fun j hj => ?_)⟩⟩⟩
      by_cases e : j = i
      · subst e; simpa using c2
      · exact hq j (by omega)
/-- whether the date d fits the loan k -/
def fitW (w : Nat → Int) (k : Nat) (d : Nat) : Bool := decide (d ≤ 99 ∧ (0 < w (98 + 2 * (4 * (lo w k 0).toNat + (lo w k 1).toNat)) ∧ w (98 + 2 * (4 * (lo w k 0).toNat + (lo w k 1).toNat)) - 1 ≤ (d : Int) ∧ (d : Int) ≤ w (98 + 2 * (4 * (lo w k 0).toNat + (lo w k 1).toNat) + 1)) ∧ borr w (lo w k 0) (lo w k 1) (d : Int) (word w k) = wend w k)
theorem fitW_iff {w : Nat → Int} {k d : Nat} : fitW w k d = true ↔ d ≤ 99 ∧ wMet w (lo w k 0) (lo w k 1) (d : Int) ∧ borr w (lo w k 0) (lo w k 1) (d : Int) (word w k) = wend w k := decide_eq_true_iff
set_option maxRecDepth 100000 in
set_option maxHeartbeats 4000000 in
theorem mc_fits {d : Nat} {h : AbH} {m : Nat} {ad : Nat → Nat} {sc : Nat → Int} {ar : Nat → Nat → Int} {K : Option AbV → AbH → Prop} (hA : mA ad) {k dd : Nat} (hw : wV (ar 0)) (hk : k < no (ar 0)) (hd : dd ≤ 99) (kk : ∀ sc' ar', mE FS sc ar sc' ar' → K (some (vI (b2i (fitW (ar 0) k dd)))) (mH h m ad sc' ar')) : Vm (d + 6) m_X10_fits [vR (some m), vI (k : Int), vI (dd : Int)] (mH h m ad sc ar) K := by
  obtain ⟨n1, n2⟩ := hw.now
  obtain ⟨l1, l2, l3, l4, l5, l6, l7⟩ := hw.2.2.2.2 k hk
  have e0 : (130 + 22 * (k : Int) + 0).toNat = 130 + 22 * k + 0 := by omega
  have e1 : (130 + 22 * (k : Int) + 1).toNat = 130 + 22 * k + 1 := by omega
  have z0 : ar 0 (130 + 22 * k + 0) = lo (ar 0) k 0 := rfl
  have z1 : ar 0 (130 + 22 * k + 1) = lo (ar 0) k 1 := rfl
  refine Vm.intro rfl (Nat.le_of_ble_eq_true rfl) (fun _ => B_X10_fits_0 ?_)
  simp only [mCV, kI_some, kL_some, kR_some, kV_none, vu_app, mgR_0, mgR_3, mgR_12, mgR_13, mgR_14, mgR_16, mgR_17, mgR_18, mgR_19, mgR_20, mgR_21, mgR_2, mgR_7, mgI_1, mgI_4, mgI_5, mgI_6, mgI_8, mgI_9, mgI_10, mgI_11, mgI_15, mgI_22, mpI_1, mpI_4, mpI_5, mpI_6, mpI_8, mpI_9, mpI_10, mpI_11, mpI_15, mpI_22, mlI_0 hA, mlI_3 hA, mlI_12 hA, mlI_13 hA, mlI_14 hA, mlI_16 hA, mlI_17 hA, mlI_18 hA, mlI_19 hA, mlI_20 hA, mlI_21 hA, msI_0 hA, msI_3 hA, msI_12 hA, msI_13 hA, msI_14 hA, msI_16 hA, msI_17 hA, msI_18 hA, msI_19 hA, msI_20 hA, msI_21 hA, mlZ_2 hA, mlZ_7 hA, msZ_2 hA, msZ_7 hA, kI_some, kL_some, kR_some, kV_none, ne_eq, not_true_eq_false, not_false_eq_true, true_implies, false_implies, implies_true, true_and, and_true, ab_z01, or_true, true_or, reduceCtorEq, Option.some.injEq, Int.reduceEq, Int.reduceNe, Int.reduceLT, Int.reduceLE, Int.reduceNeg, Int.reduceAdd, Int.reduceSub, Int.reduceMul, Nat.reduceEqDiff, Nat.reduceAdd, Nat.reduceMul, Int.reduceToNat, ↓reduceIte]
  refine mc_loanAt (by omega) ?_
  simp only [mCV, kI_some, kL_some, kR_some, kV_none, vu_app, mgR_0, mgR_3, mgR_12, mgR_13, mgR_14, mgR_16, mgR_17, mgR_18, mgR_19, mgR_20, mgR_21, mgR_2, mgR_7, mgI_1, mgI_4, mgI_5, mgI_6, mgI_8, mgI_9, mgI_10, mgI_11, mgI_15, mgI_22, mpI_1, mpI_4, mpI_5, mpI_6, mpI_8, mpI_9, mpI_10, mpI_11, mpI_15, mpI_22, mlI_0 hA, mlI_3 hA, mlI_12 hA, mlI_13 hA, mlI_14 hA, mlI_16 hA, mlI_17 hA, mlI_18 hA, mlI_19 hA, mlI_20 hA, mlI_21 hA, msI_0 hA, msI_3 hA, msI_12 hA, msI_13 hA, msI_14 hA, msI_16 hA, msI_17 hA, msI_18 hA, msI_19 hA, msI_20 hA, msI_21 hA, mlZ_2 hA, mlZ_7 hA, msZ_2 hA, msZ_7 hA, kI_some, kL_some, kR_some, kV_none, ne_eq, not_true_eq_false, not_false_eq_true, true_implies, false_implies, implies_true, true_and, and_true, ab_z01, or_true, true_or, reduceCtorEq, Option.some.injEq, Int.reduceEq, Int.reduceNe, Int.reduceLT, Int.reduceLE, Int.reduceNeg, Int.reduceAdd, Int.reduceSub, Int.reduceMul, Nat.reduceEqDiff, Nat.reduceAdd, Nat.reduceMul, Int.reduceToNat, ↓reduceIte, e0]
  refine ⟨i3 (by omega) (by omega), by omega, by omega, mc_loanAt (by omega) ?_⟩
  simp only [mCV, kI_some, kL_some, kR_some, kV_none, vu_app, mgR_0, mgR_3, mgR_12, mgR_13, mgR_14, mgR_16, mgR_17, mgR_18, mgR_19, mgR_20, mgR_21, mgR_2, mgR_7, mgI_1, mgI_4, mgI_5, mgI_6, mgI_8, mgI_9, mgI_10, mgI_11, mgI_15, mgI_22, mpI_1, mpI_4, mpI_5, mpI_6, mpI_8, mpI_9, mpI_10, mpI_11, mpI_15, mpI_22, mlI_0 hA, mlI_3 hA, mlI_12 hA, mlI_13 hA, mlI_14 hA, mlI_16 hA, mlI_17 hA, mlI_18 hA, mlI_19 hA, mlI_20 hA, mlI_21 hA, msI_0 hA, msI_3 hA, msI_12 hA, msI_13 hA, msI_14 hA, msI_16 hA, msI_17 hA, msI_18 hA, msI_19 hA, msI_20 hA, msI_21 hA, mlZ_2 hA, mlZ_7 hA, msZ_2 hA, msZ_7 hA, kI_some, kL_some, kR_some, kV_none, ne_eq, not_true_eq_false, not_false_eq_true, true_implies, false_implies, implies_true, true_and, and_true, ab_z01, or_true, true_or, reduceCtorEq, Option.some.injEq, Int.reduceEq, Int.reduceNe, Int.reduceLT, Int.reduceLE, Int.reduceNeg, Int.reduceAdd, Int.reduceSub, Int.reduceMul, Nat.reduceEqDiff, Nat.reduceAdd, Nat.reduceMul, Int.reduceToNat, ↓reduceIte, e1]
  rw [z0, z1]
  refine ⟨i3 (by omega) (by omega), by omega, by omega, mc_isMet hA l1 l2 hw.met (fun c => ?_) (fun c => ?_)⟩
  · simp only [mCV, kI_some, kL_some, kR_some, kV_none, vu_app, mgR_0, mgR_3, mgR_12, mgR_13, mgR_14, mgR_16, mgR_17, mgR_18, mgR_19, mgR_20, mgR_21, mgR_2, mgR_7, mgI_1, mgI_4, mgI_5, mgI_6, mgI_8, mgI_9, mgI_10, mgI_11, mgI_15, mgI_22, mpI_1, mpI_4, mpI_5, mpI_6, mpI_8, mpI_9, mpI_10, mpI_11, mpI_15, mpI_22, mlI_0 hA, mlI_3 hA, mlI_12 hA, mlI_13 hA, mlI_14 hA, mlI_16 hA, mlI_17 hA, mlI_18 hA, mlI_19 hA, mlI_20 hA, mlI_21 hA, msI_0 hA, msI_3 hA, msI_12 hA, msI_13 hA, msI_14 hA, msI_16 hA, msI_17 hA, msI_18 hA, msI_19 hA, msI_20 hA, msI_21 hA, mlZ_2 hA, mlZ_7 hA, msZ_2 hA, msZ_7 hA, kI_some, kL_some, kR_some, kV_none, ne_eq, not_true_eq_false, not_false_eq_true, true_implies, false_implies, implies_true, true_and, and_true, ab_z01, or_true, true_or, reduceCtorEq, Option.some.injEq, Int.reduceEq, Int.reduceNe, Int.reduceLT, Int.reduceLE, Int.reduceNeg, Int.reduceAdd, Int.reduceSub, Int.reduceMul, Nat.reduceEqDiff, Nat.reduceAdd, Nat.reduceMul, Int.reduceToNat, ↓reduceIte]
    have hlo := hw.2.2.2.2 k hk
    refine mc_takes hA hw.L (by omega) hlo (fun sc1 ar1 hE1 hF1 => ?_)
    have q1 : ar1 0 = ar 0 := hE1.2 0 (by decide)
    simp only [mCV, kI_some, kL_some, kR_some, kV_none, vu_app, mgR_0, mgR_3, mgR_12, mgR_13, mgR_14, mgR_16, mgR_17, mgR_18, mgR_19, mgR_20, mgR_21, mgR_2, mgR_7, mgI_1, mgI_4, mgI_5, mgI_6, mgI_8, mgI_9, mgI_10, mgI_11, mgI_15, mgI_22, mpI_1, mpI_4, mpI_5, mpI_6, mpI_8, mpI_9, mpI_10, mpI_11, mpI_15, mpI_22, mlI_0 hA, mlI_3 hA, mlI_12 hA, mlI_13 hA, mlI_14 hA, mlI_16 hA, mlI_17 hA, mlI_18 hA, mlI_19 hA, mlI_20 hA, mlI_21 hA, msI_0 hA, msI_3 hA, msI_12 hA, msI_13 hA, msI_14 hA, msI_16 hA, msI_17 hA, msI_18 hA, msI_19 hA, msI_20 hA, msI_21 hA, mlZ_2 hA, mlZ_7 hA, msZ_2 hA, msZ_7 hA, kI_some, kL_some, kR_some, kV_none, ne_eq, not_true_eq_false, not_false_eq_true, true_implies, false_implies, implies_true, true_and, and_true, ab_z01, or_true, true_or, reduceCtorEq, Option.some.injEq, Int.reduceEq, Int.reduceNe, Int.reduceLT, Int.reduceLE, Int.reduceNeg, Int.reduceAdd, Int.reduceSub, Int.reduceMul, Nat.reduceEqDiff, Nat.reduceAdd, Nat.reduceMul, Int.reduceToNat, ↓reduceIte]
    refine mc_isEnd hA (by omega) (by rw [q1]; exact hlo) (dev_V hw.L (dev_V hw.L (word_V hlo))) hF1 ?_
    simp only [mCV, kI_some, kL_some, kR_some, kV_none, vu_app, mgR_0, mgR_3, mgR_12, mgR_13, mgR_14, mgR_16, mgR_17, mgR_18, mgR_19, mgR_20, mgR_21, mgR_2, mgR_7, mgI_1, mgI_4, mgI_5, mgI_6, mgI_8, mgI_9, mgI_10, mgI_11, mgI_15, mgI_22, mpI_1, mpI_4, mpI_5, mpI_6, mpI_8, mpI_9, mpI_10, mpI_11, mpI_15, mpI_22, mlI_0 hA, mlI_3 hA, mlI_12 hA, mlI_13 hA, mlI_14 hA, mlI_16 hA, mlI_17 hA, mlI_18 hA, mlI_19 hA, mlI_20 hA, mlI_21 hA, msI_0 hA, msI_3 hA, msI_12 hA, msI_13 hA, msI_14 hA, msI_16 hA, msI_17 hA, msI_18 hA, msI_19 hA, msI_20 hA, msI_21 hA, mlZ_2 hA, mlZ_7 hA, msZ_2 hA, msZ_7 hA, kI_some, kL_some, kR_some, kV_none, ne_eq, not_true_eq_false, not_false_eq_true, true_implies, false_implies, implies_true, true_and, and_true, ab_z01, or_true, true_or, reduceCtorEq, Option.some.injEq, Int.reduceEq, Int.reduceNe, Int.reduceLT, Int.reduceLE, Int.reduceNeg, Int.reduceAdd, Int.reduceSub, Int.reduceMul, Nat.reduceEqDiff, Nat.reduceAdd, Nat.reduceMul, Int.reduceToNat, ↓reduceIte]
    refine ⟨b2i_01 _, ?_⟩
    rw [q1]
    have : fitW (ar 0) k dd = decide (borr (ar 0) (lo (ar 0) k 0) (lo (ar 0) k 1) (dd : Int) (word (ar 0) k) = wend (ar 0) k) := by
      by_cases q : borr (ar 0) (lo (ar 0) k 0) (lo (ar 0) k 1) (dd : Int) (word (ar 0) k) = wend (ar 0) k
      · rw [decide_eq_true q]
        exact fitW_iff.mpr ⟨hd, c, q⟩
      · rw [decide_eq_false q]
        exact Bool.eq_false_iff.mpr (fun z => q (fitW_iff.mp z).2.2)
    have z := kk sc1 ar1 hE1
    rw [this] at z
    exact z
  · simp only [mCV, kI_some, kL_some, kR_some, kV_none, vu_app, mgR_0, mgR_3, mgR_12, mgR_13, mgR_14, mgR_16, mgR_17, mgR_18, mgR_19, mgR_20, mgR_21, mgR_2, mgR_7, mgI_1, mgI_4, mgI_5, mgI_6, mgI_8, mgI_9, mgI_10, mgI_11, mgI_15, mgI_22, mpI_1, mpI_4, mpI_5, mpI_6, mpI_8, mpI_9, mpI_10, mpI_11, mpI_15, mpI_22, mlI_0 hA, mlI_3 hA, mlI_12 hA, mlI_13 hA, mlI_14 hA, mlI_16 hA, mlI_17 hA, mlI_18 hA, mlI_19 hA, mlI_20 hA, mlI_21 hA, msI_0 hA, msI_3 hA, msI_12 hA, msI_13 hA, msI_14 hA, msI_16 hA, msI_17 hA, msI_18 hA, msI_19 hA, msI_20 hA, msI_21 hA, mlZ_2 hA, mlZ_7 hA, msZ_2 hA, msZ_7 hA, kI_some, kL_some, kR_some, kV_none, ne_eq, not_true_eq_false, not_false_eq_true, true_implies, false_implies, implies_true, true_and, and_true, ab_z01, or_true, true_or, reduceCtorEq, Option.some.injEq, Int.reduceEq, Int.reduceNe, Int.reduceLT, Int.reduceLE, Int.reduceNeg, Int.reduceAdd, Int.reduceSub, Int.reduceMul, Nat.reduceEqDiff, Nat.reduceAdd, Nat.reduceMul, Int.reduceToNat, ↓reduceIte]
    have : fitW (ar 0) k dd = false := Bool.eq_false_iff.mpr (fun z => c (fitW_iff.mp z).2.1)
    have q := kk sc ar mE.rf
    rw [this] at q
    exact q
def winR (F : Nat → Bool) (k : Nat) (b : Bool) : Int := if b = true then winB F k else winE F k
theorem fit_100 {w : Nat → Int} {k d : Nat} (h : 99 < d) : fitW w k d = false := Bool.eq_false_iff.mpr (fun z => by have := (fitW_iff.mp z).1; omega)
set_option maxRecDepth 100000 in
set_option maxHeartbeats 4000000 in
theorem mc_windowOf {d : Nat} {h : AbH} {m : Nat} {ad : Nat → Nat} {sc : Nat → Int} {ar : Nat → Nat → Int} {K : Option AbV → AbH → Prop} (hA : mA ad) {k q : Nat} {b : Bool} (hw : wV (ar 0)) (hk : k < no (ar 0)) (hq : (q : Int) ≤ 2147483647) (kk : ∀ sc' ar', mE FS sc ar sc' ar' → K (some (vI (winR (fitW (ar 0) k) q b))) (mH h m ad sc' ar')) : Vm (d + 7) m_X10_windowOf [vR (some m), vI (k : Int), vI (q : Int), vI (b2i b)] (mH h m ad sc ar) K := by
  obtain ⟨F, hF⟩ : ∃ F, F = fitW (ar 0) k := ⟨_, rfl⟩
  rw [← hF] at kk
  have F100 : F 100 = false := by rw [hF]; exact fit_100 (by decide)
  refine Vm.intro rfl (Nat.le_of_ble_eq_true rfl) (fun _ => B_X10_windowOf_0 ?_)
  refine lp_up (P := fun i => ∀ sc' ar', mE FS sc ar sc' ar' → (b = true → sN F i ≤ q) → (b = false → eN F i ≤ q) → Vx (d + 7) m_X10_windowOf 0 0 9 [some (vR (some m)), some (vI (k : Int)), some (vI (q : Int)), some (vI (b2i b)), some (vI (b2i (hadB F i))), some (vI (eN F i : Int)), some (vI (i : Int)), none] [] (mH h m ad sc' ar') K) (n := 101) ?_ ?_ 0 (by omega) sc ar mE.rf (fun _ => Nat.zero_le _) (fun _ => Nat.zero_le _)
  · intro sc' ar' hE h1 h2
    refine B_X10_windowOf_9 ⟨fun _ => ?_, fun c => absurd (by decide) c⟩
    have s100 : sN F 101 = sN F 100 := by rw [sN_step, if_neg (fun z => by rw [F100] at z; exact absurd z.1 (by decide))]; rfl
    have : winR F q b = -1 := by
      cases b with
      | true =>
        have := h1 rfl
        exact winB_no (by omega)
      | false =>
        have h3 := h2 rfl
        have : ¬ hadB F 101 = true := by rw [hadB_s, F100]; decide
        rw [eN_not this, s100] at h3
        exact winE_no h3
    have z := kk sc' ar' hE
    rw [this] at z
    exact z
  · intro i hi ih sc' ar' hE h1 h2
    have e0 : ar' 0 = ar 0 := hE.2 0 (by decide)
    have hsn := sN_le F i
    have heN : eN F i ≤ sN F i := Nat.sub_le _ _
    -- with 'is' known
    have F40 : ∀ sc2 ar2, mE FS sc ar sc2 ar2 → Vx (d + 7) m_X10_windowOf 0 0 40 [some (vR (some m)), some (vI (k : Int)), some (vI (q : Int)), some (vI (b2i b)), some (vI (b2i (hadB F i))), some (vI (eN F i : Int)), some (vI (i : Int)), some (vI (b2i (F i)))] [] (mH h m ad sc2 ar2) K := by
      intro sc2 ar2 hE2
      have go : (b = true → sN F (i + 1) ≤ q) → (b = false → eN F (i + 1) ≤ q) → Vx (d + 7) m_X10_windowOf 0 0 94 [some (vR (some m)), some (vI (k : Int)), some (vI (q : Int)), some (vI (b2i b)), some (vI (b2i (hadB F i))), some (vI (eN F i : Int)), some (vI (i : Int)), some (vI (b2i (F i)))] [] (mH h m ad sc2 ar2) K := by
        intro g1 g2
        have ih2 := ih sc2 ar2 hE2 g1 g2
        rw [hadB_s, eN_step] at ih2
        have F114 : Vx (d + 7) m_X10_windowOf 0 0 114 [some (vR (some m)), some (vI (k : Int)), some (vI (q : Int)), some (vI (b2i b)), some (vI (b2i (hadB F i))), some (vI ((eN F i + (if hadB F i = true ∧ ¬ F i = true then 1 else 0) : Nat) : Int)), some (vI (i : Int)), some (vI (b2i (F i)))] [] (mH h m ad sc2 ar2) K := B_X10_windowOf_114 ⟨i3 (by omega) (by omega), ih2⟩
        refine B_X10_windowOf_94 ?_
        cases hh : hadB F i <;> cases hF0 : F i <;> rw [hh, hF0] at F114 <;> simp only [b2i, kI_some, kL_some, kR_some, kV_none, ne_eq, not_true_eq_false, not_false_eq_true, true_implies, false_implies, implies_true, true_and, and_true, ab_z01, or_true, true_or, reduceCtorEq, Option.some.injEq, Int.reduceEq, Int.reduceNe, Int.reduceLT, Int.reduceLE, Int.reduceNeg, Int.reduceAdd, Int.reduceSub, Int.reduceMul, Nat.reduceEqDiff, Nat.reduceAdd, Nat.reduceMul, Int.reduceToNat, ↓reduceIte, Bool.false_eq_true, and_false, false_and, and_self, if_true, if_false, Int.add_zero, Nat.add_zero] at F114 ⊢
        · exact ⟨i3 (by omega) (by omega), F114⟩
        · exact ⟨i3 (by omega) (by omega), F114⟩
        · exact ⟨i3 (by omega) (by omega), F114⟩
        · exact ⟨i3 (by omega) (by omega), F114⟩
      refine B_X10_windowOf_40 ?_
      cases hh : hadB F i <;> cases hF0 : F i <;> cases hb : b <;> rw [hh, hF0, hb] at go <;> simp only [b2i, kI_some, kL_some, kR_some, kV_none, ne_eq, not_true_eq_false, not_false_eq_true, true_implies, false_implies, implies_true, true_and, and_true, ab_z01, or_true, true_or, reduceCtorEq, Option.some.injEq, Int.reduceEq, Int.reduceNe, Int.reduceLT, Int.reduceLE, Int.reduceNeg, Int.reduceAdd, Int.reduceSub, Int.reduceMul, Nat.reduceEqDiff, Nat.reduceAdd, Nat.reduceMul, Int.reduceToNat, ↓reduceIte, Bool.false_eq_true, if_true, if_false] at go ⊢
      · exact go (by rw [eN_step, if_neg (fun z => by rw [hh] at z; exact absurd z.1 (by decide))]; exact h2 hb)
      · exact go (by rw [sN_step, if_neg (fun z => by rw [hF0] at z; exact absurd z.1 (by decide))]; exact h1 hb)
      · exact go (by rw [eN_step, if_neg (fun z => by rw [hh] at z; exact absurd z.1 (by decide))]; exact h2 hb)
      · have hst : sta F i = true := sta_iff.mpr ⟨hF0, by rw [hh]; decide⟩
        have hE0 : eN F i = sN F i := eN_not (by rw [hh]; decide)
        have hlt : i < 100 := by
          by_cases z : i = 100
          · subst z; rw [F100] at hF0; cases hF0
          · omega
        refine ⟨fun c => ?_, fun c => go ?_⟩
        · have hqs : sN F i = q := by omega
          have hR : winR F q b = (i : Int) := by
            rw [hb, ← hqs]
            exact winB_at hlt hst
          have z := kk sc2 ar2 hE2
          rw [hR] at z
          exact z
        · rw [sN_step, if_pos (sta_iff.mp hst)]
          have := h1 hb
          omega
      · have h3 : hadB F i = true := hh
        have hE0 := eN_had h3
        have hpos : 0 < i := by
          by_cases z : i = 0
          · subst z; rw [hadB_0] at h3; cases h3
          · omega
        refine ⟨fun c => go ?_, fun c => ⟨i3 (by omega) (by omega), ?_⟩⟩
        · rw [eN_step, if_pos ⟨h3, by rw [hF0]; decide⟩]
          have := h2 hb
          omega
        · have hR : winR F q b = ((i - 1 : Nat) : Int) := by
            rw [hb]
            refine winE_at (b := i - 1) (by omega) ⟨?_, ?_⟩ ?_
            · have := hadB_s (F := F) (n := i - 1)
              rw [show i - 1 + 1 = i by omega] at this
              rw [← this]; exact h3
            · rw [show i - 1 + 1 = i by omega, hF0]; decide
            · rw [show i - 1 + 1 = i by omega]; omega
          have z := kk sc2 ar2 hE2
          rw [hR] at z
          rw [show (i : Int) - 1 = ((i - 1 : Nat) : Int) by omega]
          exact z
      · exact go (by rw [sN_step, if_neg (fun z => z.2 hh)]; exact h1 hb)
      · exact go (by rw [eN_step, if_neg (fun z => z.2 hF0)]; exact h2 hb)
      · exact go (by rw [sN_step, if_neg (fun z => z.2 hh)]; exact h1 hb)
    refine B_X10_windowOf_9 ⟨fun c => absurd c (by omega), fun _ => ⟨fun c => ?_, fun c => ?_⟩⟩
    · have := F40 sc' ar' hE
      rw [show i = 100 by omega, F100] at this
      rw [show i = 100 by omega]
      exact this
    · simp only [mCV]
      refine mc_fits hA (by rw [e0]; exact hw) (by rw [e0]; exact hk) (by omega) (fun sc2 ar2 hE2 => ?_)
      have z := F40 sc2 ar2 (hE.tr hE2)
      rw [e0, ← hF]
      simp only [kI_some, kL_some, kR_some, kV_none, ne_eq, not_true_eq_false, not_false_eq_true, true_implies, false_implies, implies_true, true_and, and_true, ab_z01, or_true, true_or, reduceCtorEq, Option.some.injEq, Int.reduceEq, Int.reduceNe, Int.reduceLT, Int.reduceLE, Int.reduceNeg, Int.reduceAdd, Int.reduceSub, Int.reduceMul, Nat.reduceEqDiff, Nat.reduceAdd, Nat.reduceMul, Int.reduceToNat, ↓reduceIte]
      cases hFi : F i <;> rw [hFi] at z <;> simp only [b2i, kI_some, kL_some, kR_some, kV_none, ne_eq, not_true_eq_false, not_false_eq_true, true_implies, false_implies, implies_true, true_and, and_true, ab_z01, or_true, true_or, reduceCtorEq, Option.some.injEq, Int.reduceEq, Int.reduceNe, Int.reduceLT, Int.reduceLE, Int.reduceNeg, Int.reduceAdd, Int.reduceSub, Int.reduceMul, Nat.reduceEqDiff, Nat.reduceAdd, Nat.reduceMul, Int.reduceToNat, ↓reduceIte, Bool.false_eq_true, if_true, if_false] at z ⊢ <;> exact z
