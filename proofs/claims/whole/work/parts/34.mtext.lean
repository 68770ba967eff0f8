/-! the model's tokens -/
def txV (T : Nat → Int) (L : Nat) : Prop := L ≤ 200 ∧ ∀ i, i < L → 0 ≤ T i ∧ T i ≤ 255
/-- the token at s is at hand -/
def tk (T : Nat → Int) (L : Nat) (sc : Nat → Int) (ar : Nat → Nat → Int) (s : Nat) : Prop := sc 4 = (L : Int) ∧ ar 3 = T ∧ s ≤ L ∧ sc 5 = (s : Int) ∧ sc 6 = (tkE T L s : Int)
abbrev TS : List Nat := [5, 6]
set_option maxRecDepth 100000 in
set_option maxHeartbeats 4000000 in
theorem mc_nextToken {d : Nat} {h : AbH} {m : Nat} {ad : Nat → Nat} {sc : Nat → Int} {ar : Nat → Nat → Int} {K : Option AbV → AbH → Prop} (hA : mA ad) {T : Nat → Int} {L e : Nat} (hT : txV T L) (h4 : sc 4 = (L : Int)) (h3 : ar 3 = T) (h6 : sc 6 = (e : Int)) (he : e ≤ L) (kk : ∀ sc', mE TS sc ar sc' ar → tk T L sc' ar (skp T L e) → K none (mH h m ad sc' ar)) : Vm (d + 3) m_X10_nextToken [vR (some m)] (mH h m ad sc ar) K := by
  obtain ⟨hL, hb⟩ := hT
  obtain ⟨s, hs⟩ : ∃ s, s = skp T L e := ⟨_, rfl⟩
  rw [← hs] at kk
  have hsL : e ≤ s ∧ s ≤ L := by rw [hs]; exact skp_le he
  -- the letters
  have F100 : ∀ i, i ≤ L → ∀ sc', mE TS sc ar sc' ar → sc' 5 = (s : Int) → sc' 6 = (i : Int) → ext T L 1 i = tkE T L s → Vx (d + 3) m_X10_nextToken 0 0 100 [some (vR (some m))] [] (mH h m ad sc' ar) K := by
    refine lp_up (P := fun i => ∀ sc', mE TS sc ar sc' ar → sc' 5 = (s : Int) → sc' 6 = (i : Int) → ext T L 1 i = tkE T L s → Vx (d + 3) m_X10_nextToken 0 0 100 [some (vR (some m))] [] (mH h m ad sc' ar) K) (n := L) ?_ ?_
    · intro sc' hE q5 q6 qe
      have q4 : sc' 4 = (L : Int) := (hE.1 4 (by decide)).trans h4
      refine B_X10_nextToken_100 ?_
      simp only [mCV, kI_some, kL_some, kR_some, kV_none, vu_app, mgR_0, mgR_3, mgR_12, mgR_13, mgR_14, mgR_16, mgR_17, mgR_18, mgR_19, mgR_20, mgR_21, mgR_2, mgR_7, mgI_1, mgI_4, mgI_5, mgI_6, mgI_8, mgI_9, mgI_10, mgI_11, mgI_15, mgI_22, mpI_1, mpI_4, mpI_5, mpI_6, mpI_8, mpI_9, mpI_10, mpI_11, mpI_15, mpI_22, mlI_0 hA, mlI_3 hA, mlI_12 hA, mlI_13 hA, mlI_14 hA, mlI_16 hA, mlI_17 hA, mlI_18 hA, mlI_19 hA, mlI_20 hA, mlI_21 hA, msI_0 hA, msI_3 hA, msI_12 hA, msI_13 hA, msI_14 hA, msI_16 hA, msI_17 hA, msI_18 hA, msI_19 hA, msI_20 hA, msI_21 hA, mlZ_2 hA, mlZ_7 hA, msZ_2 hA, msZ_7 hA, kI_some, kL_some, kR_some, kV_none, ne_eq, not_true_eq_false, not_false_eq_true, true_implies, false_implies, implies_true, true_and, and_true, ab_z01, or_true, true_or, reduceCtorEq, Option.some.injEq, Int.reduceEq, Int.reduceNe, Int.reduceLT, Int.reduceLE, Int.reduceNeg, Int.reduceAdd, Int.reduceSub, Int.reduceMul, Nat.reduceEqDiff, Nat.reduceAdd, Nat.reduceMul, Int.reduceToNat, ↓reduceIte, q6, q4]
      refine ⟨fun _ => kk sc' hE ⟨q4, h3, hsL.2, q5, ?_⟩, fun c => absurd (by omega) c⟩
      rw [q6, ← qe, ext_step, if_neg (by omega)]
    · intro i hi ih sc' hE q5 q6 qe
      have q4 : sc' 4 = (L : Int) := (hE.1 4 (by decide)).trans h4
      refine B_X10_nextToken_100 ?_
      simp only [mCV, kI_some, kL_some, kR_some, kV_none, vu_app, mgR_0, mgR_3, mgR_12, mgR_13, mgR_14, mgR_16, mgR_17, mgR_18, mgR_19, mgR_20, mgR_21, mgR_2, mgR_7, mgI_1, mgI_4, mgI_5, mgI_6, mgI_8, mgI_9, mgI_10, mgI_11, mgI_15, mgI_22, mpI_1, mpI_4, mpI_5, mpI_6, mpI_8, mpI_9, mpI_10, mpI_11, mpI_15, mpI_22, mlI_0 hA, mlI_3 hA, mlI_12 hA, mlI_13 hA, mlI_14 hA, mlI_16 hA, mlI_17 hA, mlI_18 hA, mlI_19 hA, mlI_20 hA, mlI_21 hA, msI_0 hA, msI_3 hA, msI_12 hA, msI_13 hA, msI_14 hA, msI_16 hA, msI_17 hA, msI_18 hA, msI_19 hA, msI_20 hA, msI_21 hA, mlZ_2 hA, mlZ_7 hA, msZ_2 hA, msZ_7 hA, kI_some, kL_some, kR_some, kV_none, ne_eq, not_true_eq_false, not_false_eq_true, true_implies, false_implies, implies_true, true_and, and_true, ab_z01, or_true, true_or, reduceCtorEq, Option.some.injEq, Int.reduceEq, Int.reduceNe, Int.reduceLT, Int.reduceLE, Int.reduceNeg, Int.reduceAdd, Int.reduceSub, Int.reduceMul, Nat.reduceEqDiff, Nat.reduceAdd, Nat.reduceMul, Int.reduceToNat, ↓reduceIte, q6, q4, h3, Int.toNat_natCast]
      refine ⟨fun c => absurd c (by omega), fun _ => ?_⟩
      repeat (first | refine And.intro (by omega) ?_ | refine And.intro (i3 (by omega) (by omega)) ?_)
      refine mc_isSmall (fun c => ?_) (fun c => ?_) <;> simp only [mCV, kI_some, kL_some, kR_some, kV_none, vu_app, mgR_0, mgR_3, mgR_12, mgR_13, mgR_14, mgR_16, mgR_17, mgR_18, mgR_19, mgR_20, mgR_21, mgR_2, mgR_7, mgI_1, mgI_4, mgI_5, mgI_6, mgI_8, mgI_9, mgI_10, mgI_11, mgI_15, mgI_22, mpI_1, mpI_4, mpI_5, mpI_6, mpI_8, mpI_9, mpI_10, mpI_11, mpI_15, mpI_22, mlI_0 hA, mlI_3 hA, mlI_12 hA, mlI_13 hA, mlI_14 hA, mlI_16 hA, mlI_17 hA, mlI_18 hA, mlI_19 hA, mlI_20 hA, mlI_21 hA, msI_0 hA, msI_3 hA, msI_12 hA, msI_13 hA, msI_14 hA, msI_16 hA, msI_17 hA, msI_18 hA, msI_19 hA, msI_20 hA, msI_21 hA, mlZ_2 hA, mlZ_7 hA, msZ_2 hA, msZ_7 hA, kI_some, kL_some, kR_some, kV_none, ne_eq, not_true_eq_false, not_false_eq_true, true_implies, false_implies, implies_true, true_and, and_true, ab_z01, or_true, true_or, reduceCtorEq, Option.some.injEq, Int.reduceEq, Int.reduceNe, Int.reduceLT, Int.reduceLE, Int.reduceNeg, Int.reduceAdd, Int.reduceSub, Int.reduceMul, Nat.reduceEqDiff, Nat.reduceAdd, Nat.reduceMul, Int.reduceToNat, ↓reduceIte, q6]
      · repeat (first | refine And.intro (by omega) ?_ | refine And.intro (i3 (by omega) (by omega)) ?_)
        refine ih _ (hE.sc (by decide)) (by rw [vu_ne (by decide)]; exact q5) (by rw [vu_same]; omega) ?_
        rw [ext_step, if_pos ⟨hi, kd_1.mpr c⟩] at qe
        exact qe
      · refine kk sc' hE ⟨q4, h3, hsL.2, q5, ?_⟩
        rw [q6, ← qe, ext_step, if_neg (fun z => c (kd_1.mp z.2))]
  -- the digits
  have F165 : ∀ i, i ≤ L → ∀ sc', mE TS sc ar sc' ar → sc' 5 = (s : Int) → sc' 6 = (i : Int) → ext T L 2 i = tkE T L s → Vx (d + 3) m_X10_nextToken 0 0 165 [some (vR (some m))] [] (mH h m ad sc' ar) K := by
    refine lp_up (P := fun i => ∀ sc', mE TS sc ar sc' ar → sc' 5 = (s : Int) → sc' 6 = (i : Int) → ext T L 2 i = tkE T L s → Vx (d + 3) m_X10_nextToken 0 0 165 [some (vR (some m))] [] (mH h m ad sc' ar) K) (n := L) ?_ ?_
    · intro sc' hE q5 q6 qe
      have q4 : sc' 4 = (L : Int) := (hE.1 4 (by decide)).trans h4
      refine B_X10_nextToken_165 ?_
      simp only [mCV, kI_some, kL_some, kR_some, kV_none, vu_app, mgR_0, mgR_3, mgR_12, mgR_13, mgR_14, mgR_16, mgR_17, mgR_18, mgR_19, mgR_20, mgR_21, mgR_2, mgR_7, mgI_1, mgI_4, mgI_5, mgI_6, mgI_8, mgI_9, mgI_10, mgI_11, mgI_15, mgI_22, mpI_1, mpI_4, mpI_5, mpI_6, mpI_8, mpI_9, mpI_10, mpI_11, mpI_15, mpI_22, mlI_0 hA, mlI_3 hA, mlI_12 hA, mlI_13 hA, mlI_14 hA, mlI_16 hA, mlI_17 hA, mlI_18 hA, mlI_19 hA, mlI_20 hA, mlI_21 hA, msI_0 hA, msI_3 hA, msI_12 hA, msI_13 hA, msI_14 hA, msI_16 hA, msI_17 hA, msI_18 hA, msI_19 hA, msI_20 hA, msI_21 hA, mlZ_2 hA, mlZ_7 hA, msZ_2 hA, msZ_7 hA, kI_some, kL_some, kR_some, kV_none, ne_eq, not_true_eq_false, not_false_eq_true, true_implies, false_implies, implies_true, true_and, and_true, ab_z01, or_true, true_or, reduceCtorEq, Option.some.injEq, Int.reduceEq, Int.reduceNe, Int.reduceLT, Int.reduceLE, Int.reduceNeg, Int.reduceAdd, Int.reduceSub, Int.reduceMul, Nat.reduceEqDiff, Nat.reduceAdd, Nat.reduceMul, Int.reduceToNat, ↓reduceIte, q6, q4]
      refine ⟨fun _ => kk sc' hE ⟨q4, h3, hsL.2, q5, ?_⟩, fun c => absurd (by omega) c⟩
      rw [q6, ← qe, ext_step, if_neg (by omega)]
    · intro i hi ih sc' hE q5 q6 qe
      have q4 : sc' 4 = (L : Int) := (hE.1 4 (by decide)).trans h4
      refine B_X10_nextToken_165 ?_
      simp only [mCV, kI_some, kL_some, kR_some, kV_none, vu_app, mgR_0, mgR_3, mgR_12, mgR_13, mgR_14, mgR_16, mgR_17, mgR_18, mgR_19, mgR_20, mgR_21, mgR_2, mgR_7, mgI_1, mgI_4, mgI_5, mgI_6, mgI_8, mgI_9, mgI_10, mgI_11, mgI_15, mgI_22, mpI_1, mpI_4, mpI_5, mpI_6, mpI_8, mpI_9, mpI_10, mpI_11, mpI_15, mpI_22, mlI_0 hA, mlI_3 hA, mlI_12 hA, mlI_13 hA, mlI_14 hA, mlI_16 hA, mlI_17 hA, mlI_18 hA, mlI_19 hA, mlI_20 hA, mlI_21 hA, msI_0 hA, msI_3 hA, msI_12 hA, msI_13 hA, msI_14 hA, msI_16 hA, msI_17 hA, msI_18 hA, msI_19 hA, msI_20 hA, msI_21 hA, mlZ_2 hA, mlZ_7 hA, msZ_2 hA, msZ_7 hA, kI_some, kL_some, kR_some, kV_none, ne_eq, not_true_eq_false, not_false_eq_true, true_implies, false_implies, implies_true, true_and, and_true, ab_z01, or_true, true_or, reduceCtorEq, Option.some.injEq, Int.reduceEq, Int.reduceNe, Int.reduceLT, Int.reduceLE, Int.reduceNeg, Int.reduceAdd, Int.reduceSub, Int.reduceMul, Nat.reduceEqDiff, Nat.reduceAdd, Nat.reduceMul, Int.reduceToNat, ↓reduceIte, q6, q4, h3, Int.toNat_natCast]
      refine ⟨fun c => absurd c (by omega), fun _ => ?_⟩
      repeat (first | refine And.intro (by omega) ?_ | refine And.intro (i3 (by omega) (by omega)) ?_)
      refine mc_isDigit (fun c => ?_) (fun c => ?_) <;> simp only [mCV, kI_some, kL_some, kR_some, kV_none, vu_app, mgR_0, mgR_3, mgR_12, mgR_13, mgR_14, mgR_16, mgR_17, mgR_18, mgR_19, mgR_20, mgR_21, mgR_2, mgR_7, mgI_1, mgI_4, mgI_5, mgI_6, mgI_8, mgI_9, mgI_10, mgI_11, mgI_15, mgI_22, mpI_1, mpI_4, mpI_5, mpI_6, mpI_8, mpI_9, mpI_10, mpI_11, mpI_15, mpI_22, mlI_0 hA, mlI_3 hA, mlI_12 hA, mlI_13 hA, mlI_14 hA, mlI_16 hA, mlI_17 hA, mlI_18 hA, mlI_19 hA, mlI_20 hA, mlI_21 hA, msI_0 hA, msI_3 hA, msI_12 hA, msI_13 hA, msI_14 hA, msI_16 hA, msI_17 hA, msI_18 hA, msI_19 hA, msI_20 hA, msI_21 hA, mlZ_2 hA, mlZ_7 hA, msZ_2 hA, msZ_7 hA, kI_some, kL_some, kR_some, kV_none, ne_eq, not_true_eq_false, not_false_eq_true, true_implies, false_implies, implies_true, true_and, and_true, ab_z01, or_true, true_or, reduceCtorEq, Option.some.injEq, Int.reduceEq, Int.reduceNe, Int.reduceLT, Int.reduceLE, Int.reduceNeg, Int.reduceAdd, Int.reduceSub, Int.reduceMul, Nat.reduceEqDiff, Nat.reduceAdd, Nat.reduceMul, Int.reduceToNat, ↓reduceIte, q6]
      · repeat (first | refine And.intro (by omega) ?_ | refine And.intro (i3 (by omega) (by omega)) ?_)
        refine ih _ (hE.sc (by decide)) (by rw [vu_ne (by decide)]; exact q5) (by rw [vu_same]; omega) ?_
        rw [ext_step, if_pos ⟨hi, kd_2.mpr c⟩] at qe
        exact qe
      · refine kk sc' hE ⟨q4, h3, hsL.2, q5, ?_⟩
        rw [q6, ← qe, ext_step, if_neg (fun z => c (kd_2.mp z.2))]
  have F46 : ∀ sc', mE TS sc ar sc' ar → sc' 5 = (s : Int) → Vx (d + 3) m_X10_nextToken 0 0 46 [some (vR (some m))] [] (mH h m ad sc' ar) K := by
    intro sc' hE q5
    have q4 : sc' 4 = (L : Int) := (hE.1 4 (by decide)).trans h4
    refine B_X10_nextToken_46 ?_
    simp only [mCV, kI_some, kL_some, kR_some, kV_none, vu_app, mgR_0, mgR_3, mgR_12, mgR_13, mgR_14, mgR_16, mgR_17, mgR_18, mgR_19, mgR_20, mgR_21, mgR_2, mgR_7, mgI_1, mgI_4, mgI_5, mgI_6, mgI_8, mgI_9, mgI_10, mgI_11, mgI_15, mgI_22, mpI_1, mpI_4, mpI_5, mpI_6, mpI_8, mpI_9, mpI_10, mpI_11, mpI_15, mpI_22, mlI_0 hA, mlI_3 hA, mlI_12 hA, mlI_13 hA, mlI_14 hA, mlI_16 hA, mlI_17 hA, mlI_18 hA, mlI_19 hA, mlI_20 hA, mlI_21 hA, msI_0 hA, msI_3 hA, msI_12 hA, msI_13 hA, msI_14 hA, msI_16 hA, msI_17 hA, msI_18 hA, msI_19 hA, msI_20 hA, msI_21 hA, mlZ_2 hA, mlZ_7 hA, msZ_2 hA, msZ_7 hA, kI_some, kL_some, kR_some, kV_none, ne_eq, not_true_eq_false, not_false_eq_true, true_implies, false_implies, implies_true, true_and, and_true, ab_z01, or_true, true_or, reduceCtorEq, Option.some.injEq, Int.reduceEq, Int.reduceNe, Int.reduceLT, Int.reduceLE, Int.reduceNeg, Int.reduceAdd, Int.reduceSub, Int.reduceMul, Nat.reduceEqDiff, Nat.reduceAdd, Nat.reduceMul, Int.reduceToNat, ↓reduceIte, q5, q4, h3, Int.toNat_natCast]
    refine ⟨fun c => ⟨fun _ => ⟨fun _ => ?_, fun z => absurd c z⟩, fun z => absurd c z⟩, fun c => ?_⟩
    · refine kk _ (hE.sc (by decide)) ⟨by rw [vu_ne (by decide)]; exact q4, h3, hsL.2, by rw [vu_ne (by decide)]; exact q5, ?_⟩
      rw [vu_same]
      unfold tkE
      rw [if_pos (by omega)]
    · have hsl : ¬ L ≤ s := by omega
      refine ⟨i3 (by omega) (by omega), fun z => absurd z c, fun _ => ?_⟩
      repeat (first | refine And.intro (by omega) ?_ | refine And.intro (i3 (by omega) (by omega)) ?_)
      refine mc_isSmall (fun c1 => ?_) (fun c1 => ?_) <;> simp only [mCV, kI_some, kL_some, kR_some, kV_none, vu_app, mgR_0, mgR_3, mgR_12, mgR_13, mgR_14, mgR_16, mgR_17, mgR_18, mgR_19, mgR_20, mgR_21, mgR_2, mgR_7, mgI_1, mgI_4, mgI_5, mgI_6, mgI_8, mgI_9, mgI_10, mgI_11, mgI_15, mgI_22, mpI_1, mpI_4, mpI_5, mpI_6, mpI_8, mpI_9, mpI_10, mpI_11, mpI_15, mpI_22, mlI_0 hA, mlI_3 hA, mlI_12 hA, mlI_13 hA, mlI_14 hA, mlI_16 hA, mlI_17 hA, mlI_18 hA, mlI_19 hA, mlI_20 hA, mlI_21 hA, msI_0 hA, msI_3 hA, msI_12 hA, msI_13 hA, msI_14 hA, msI_16 hA, msI_17 hA, msI_18 hA, msI_19 hA, msI_20 hA, msI_21 hA, mlZ_2 hA, mlZ_7 hA, msZ_2 hA, msZ_7 hA, kI_some, kL_some, kR_some, kV_none, ne_eq, not_true_eq_false, not_false_eq_true, true_implies, false_implies, implies_true, true_and, and_true, ab_z01, or_true, true_or, reduceCtorEq, Option.some.injEq, Int.reduceEq, Int.reduceNe, Int.reduceLT, Int.reduceLE, Int.reduceNeg, Int.reduceAdd, Int.reduceSub, Int.reduceMul, Nat.reduceEqDiff, Nat.reduceAdd, Nat.reduceMul, Int.reduceToNat, ↓reduceIte, q5, q4, h3, Int.toNat_natCast]
      · refine F100 (s + 1) (by omega) _ (hE.sc (by decide)) (by rw [vu_ne (by decide)]; exact q5) (by rw [vu_same]; omega) ?_
        have : kd T s = 1 := kd_1.mpr c1
        unfold tkE
        rw [if_neg hsl, this, if_neg (by decide)]
      · refine ⟨fun z => absurd z c, fun _ => ?_⟩
        repeat (first | refine And.intro (by omega) ?_ | refine And.intro (i3 (by omega) (by omega)) ?_)
        refine mc_isDigit (fun c2 => ?_) (fun c2 => ?_) <;> simp only [mCV, kI_some, kL_some, kR_some, kV_none, vu_app, mgR_0, mgR_3, mgR_12, mgR_13, mgR_14, mgR_16, mgR_17, mgR_18, mgR_19, mgR_20, mgR_21, mgR_2, mgR_7, mgI_1, mgI_4, mgI_5, mgI_6, mgI_8, mgI_9, mgI_10, mgI_11, mgI_15, mgI_22, mpI_1, mpI_4, mpI_5, mpI_6, mpI_8, mpI_9, mpI_10, mpI_11, mpI_15, mpI_22, mlI_0 hA, mlI_3 hA, mlI_12 hA, mlI_13 hA, mlI_14 hA, mlI_16 hA, mlI_17 hA, mlI_18 hA, mlI_19 hA, mlI_20 hA, mlI_21 hA, msI_0 hA, msI_3 hA, msI_12 hA, msI_13 hA, msI_14 hA, msI_16 hA, msI_17 hA, msI_18 hA, msI_19 hA, msI_20 hA, msI_21 hA, mlZ_2 hA, mlZ_7 hA, msZ_2 hA, msZ_7 hA, kI_some, kL_some, kR_some, kV_none, ne_eq, not_true_eq_false, not_false_eq_true, true_implies, false_implies, implies_true, true_and, and_true, ab_z01, or_true, true_or, reduceCtorEq, Option.some.injEq, Int.reduceEq, Int.reduceNe, Int.reduceLT, Int.reduceLE, Int.reduceNeg, Int.reduceAdd, Int.reduceSub, Int.reduceMul, Nat.reduceEqDiff, Nat.reduceAdd, Nat.reduceMul, Int.reduceToNat, ↓reduceIte]
        · refine F165 (s + 1) (by omega) _ (hE.sc (by decide)) (by rw [vu_ne (by decide)]; exact q5) (by rw [vu_same]; omega) ?_
          have : kd T s = 2 := kd_2.mpr c2
          unfold tkE
          rw [if_neg hsl, this, if_neg (by decide)]
        · refine kk _ (hE.sc (by decide)) ⟨by rw [vu_ne (by decide)]; exact q4, h3, hsL.2, by rw [vu_ne (by decide)]; exact q5, ?_⟩
          rw [vu_same]
          have : kd T s = 0 := by unfold kd; rw [if_neg c1, if_neg c2]
          unfold tkE
          rw [if_neg hsl, if_pos this]
          omega
  refine Vm.intro rfl (Nat.le_of_ble_eq_true rfl) (fun _ => B_X10_nextToken_0 ?_)
  simp only [mCV, kI_some, kL_some, kR_some, kV_none, vu_app, mgR_0, mgR_3, mgR_12, mgR_13, mgR_14, mgR_16, mgR_17, mgR_18, mgR_19, mgR_20, mgR_21, mgR_2, mgR_7, mgI_1, mgI_4, mgI_5, mgI_6, mgI_8, mgI_9, mgI_10, mgI_11, mgI_15, mgI_22, mpI_1, mpI_4, mpI_5, mpI_6, mpI_8, mpI_9, mpI_10, mpI_11, mpI_15, mpI_22, mlI_0 hA, mlI_3 hA, mlI_12 hA, mlI_13 hA, mlI_14 hA, mlI_16 hA, mlI_17 hA, mlI_18 hA, mlI_19 hA, mlI_20 hA, mlI_21 hA, msI_0 hA, msI_3 hA, msI_12 hA, msI_13 hA, msI_14 hA, msI_16 hA, msI_17 hA, msI_18 hA, msI_19 hA, msI_20 hA, msI_21 hA, mlZ_2 hA, mlZ_7 hA, msZ_2 hA, msZ_7 hA, kI_some, kL_some, kR_some, kV_none, ne_eq, not_true_eq_false, not_false_eq_true, true_implies, false_implies, implies_true, true_and, and_true, ab_z01, or_true, true_or, reduceCtorEq, Option.some.injEq, Int.reduceEq, Int.reduceNe, Int.reduceLT, Int.reduceLE, Int.reduceNeg, Int.reduceAdd, Int.reduceSub, Int.reduceMul, Nat.reduceEqDiff, Nat.reduceAdd, Nat.reduceMul, Int.reduceToNat, ↓reduceIte, h6]
  refine lp_up (P := fun i => skp T L i = s → ∀ sc', mE TS sc ar sc' ar → sc' 5 = (i : Int) → Vx (d + 3) m_X10_nextToken 0 0 8 [some (vR (some m))] [] (mH h m ad sc' ar) K) (n := L) ?_ ?_ e he hs.symm _ (mE.rf.sc (by decide)) vu_same
  · intro q sc' hE q5
    have q4 : sc' 4 = (L : Int) := (hE.1 4 (by decide)).trans h4
    refine B_X10_nextToken_8 ?_
    simp only [mCV, kI_some, kL_some, kR_some, kV_none, vu_app, mgR_0, mgR_3, mgR_12, mgR_13, mgR_14, mgR_16, mgR_17, mgR_18, mgR_19, mgR_20, mgR_21, mgR_2, mgR_7, mgI_1, mgI_4, mgI_5, mgI_6, mgI_8, mgI_9, mgI_10, mgI_11, mgI_15, mgI_22, mpI_1, mpI_4, mpI_5, mpI_6, mpI_8, mpI_9, mpI_10, mpI_11, mpI_15, mpI_22, mlI_0 hA, mlI_3 hA, mlI_12 hA, mlI_13 hA, mlI_14 hA, mlI_16 hA, mlI_17 hA, mlI_18 hA, mlI_19 hA, mlI_20 hA, mlI_21 hA, msI_0 hA, msI_3 hA, msI_12 hA, msI_13 hA, msI_14 hA, msI_16 hA, msI_17 hA, msI_18 hA, msI_19 hA, msI_20 hA, msI_21 hA, mlZ_2 hA, mlZ_7 hA, msZ_2 hA, msZ_7 hA, kI_some, kL_some, kR_some, kV_none, ne_eq, not_true_eq_false, not_false_eq_true, true_implies, false_implies, implies_true, true_and, and_true, ab_z01, or_true, true_or, reduceCtorEq, Option.some.injEq, Int.reduceEq, Int.reduceNe, Int.reduceLT, Int.reduceLE, Int.reduceNeg, Int.reduceAdd, Int.reduceSub, Int.reduceMul, Nat.reduceEqDiff, Nat.reduceAdd, Nat.reduceMul, Int.reduceToNat, ↓reduceIte, q5, q4]
    refine ⟨fun _ => F46 sc' hE ?_, fun c => absurd (by omega) c⟩
    rw [q5, ← q, skp_step, if_neg (by omega)]
  · intro i hi ih q sc' hE q5
    have q4 : sc' 4 = (L : Int) := (hE.1 4 (by decide)).trans h4
    refine B_X10_nextToken_8 ?_
    simp only [mCV, kI_some, kL_some, kR_some, kV_none, vu_app, mgR_0, mgR_3, mgR_12, mgR_13, mgR_14, mgR_16, mgR_17, mgR_18, mgR_19, mgR_20, mgR_21, mgR_2, mgR_7, mgI_1, mgI_4, mgI_5, mgI_6, mgI_8, mgI_9, mgI_10, mgI_11, mgI_15, mgI_22, mpI_1, mpI_4, mpI_5, mpI_6, mpI_8, mpI_9, mpI_10, mpI_11, mpI_15, mpI_22, mlI_0 hA, mlI_3 hA, mlI_12 hA, mlI_13 hA, mlI_14 hA, mlI_16 hA, mlI_17 hA, mlI_18 hA, mlI_19 hA, mlI_20 hA, mlI_21 hA, msI_0 hA, msI_3 hA, msI_12 hA, msI_13 hA, msI_14 hA, msI_16 hA, msI_17 hA, msI_18 hA, msI_19 hA, msI_20 hA, msI_21 hA, mlZ_2 hA, mlZ_7 hA, msZ_2 hA, msZ_7 hA, kI_some, kL_some, kR_some, kV_none, ne_eq, not_true_eq_false, not_false_eq_true, true_implies, false_implies, implies_true, true_and, and_true, ab_z01, or_true, true_or, reduceCtorEq, Option.some.injEq, Int.reduceEq, Int.reduceNe, Int.reduceLT, Int.reduceLE, Int.reduceNeg, Int.reduceAdd, Int.reduceSub, Int.reduceMul, Nat.reduceEqDiff, Nat.reduceAdd, Nat.reduceMul, Int.reduceToNat, ↓reduceIte, q5, q4, h3, Int.toNat_natCast]
    refine ⟨fun c => absurd c (by omega), fun _ => ?_⟩
    repeat (first | refine And.intro (by omega) ?_ | refine And.intro (i3 (by omega) (by omega)) ?_)
    rw [skp_step] at q
    refine ⟨fun c => F46 sc' hE ?_, fun c => ?_⟩
    · rw [if_neg (fun z => c z.2)] at q
      rw [q5, q]
    · rw [if_pos ⟨hi, Classical.byContradiction c⟩] at q
      repeat (first | refine And.intro (by omega) ?_ | refine And.intro (i3 (by omega) (by omega)) ?_)
      exact ih q _ (hE.sc (by decide)) (by rw [vu_same]; omega)
set_option maxRecDepth 100000 in
set_option maxHeartbeats 4000000 in
theorem mc_isSign {d : Nat} {h : AbH} {m : Nat} {ad : Nat → Nat} {sc : Nat → Int} {ar : Nat → Nat → Int} {K : Option AbV → AbH → Prop} (hA : mA ad) {T : Nat → Int} {L s : Nat} {c : Int} (hT : txV T L) (ht : tk T L sc ar s) (k1 : s < L ∧ T s = c → K (some (vI 1)) (mH h m ad sc ar)) (k0 : ¬ (s < L ∧ T s = c) → K (some (vI 0)) (mH h m ad sc ar)) : Vm (d + 1) m_X10_isSign [vR (some m), vI c] (mH h m ad sc ar) K := by
  obtain ⟨h4, h3, hs, h5, h6⟩ := ht
  have hL := hT.1
  refine Vm.intro rfl (Nat.le_of_ble_eq_true rfl) (fun _ => B_X10_isSign_0 ?_)
  simp only [mCV, kI_some, kL_some, kR_some, kV_none, vu_app, mgR_0, mgR_3, mgR_12, mgR_13, mgR_14, mgR_16, mgR_17, mgR_18, mgR_19, mgR_20, mgR_21, mgR_2, mgR_7, mgI_1, mgI_4, mgI_5, mgI_6, mgI_8, mgI_9, mgI_10, mgI_11, mgI_15, mgI_22, mpI_1, mpI_4, mpI_5, mpI_6, mpI_8, mpI_9, mpI_10, mpI_11, mpI_15, mpI_22, mlI_0 hA, mlI_3 hA, mlI_12 hA, mlI_13 hA, mlI_14 hA, mlI_16 hA, mlI_17 hA, mlI_18 hA, mlI_19 hA, mlI_20 hA, mlI_21 hA, msI_0 hA, msI_3 hA, msI_12 hA, msI_13 hA, msI_14 hA, msI_16 hA, msI_17 hA, msI_18 hA, msI_19 hA, msI_20 hA, msI_21 hA, mlZ_2 hA, mlZ_7 hA, msZ_2 hA, msZ_7 hA, kI_some, kL_some, kR_some, kV_none, ne_eq, not_true_eq_false, not_false_eq_true, true_implies, false_implies, implies_true, true_and, and_true, ab_z01, or_true, true_or, reduceCtorEq, Option.some.injEq, Int.reduceEq, Int.reduceNe, Int.reduceLT, Int.reduceLE, Int.reduceNeg, Int.reduceAdd, Int.reduceSub, Int.reduceMul, Nat.reduceEqDiff, Nat.reduceAdd, Nat.reduceMul, Int.reduceToNat, ↓reduceIte, h4, h5, h3, Int.toNat_natCast]
  refine ⟨fun c => k0 (fun z => by omega), fun c => ?_⟩
  repeat (first | refine And.intro (by omega) ?_ | refine And.intro (i3 (by omega) (by omega)) ?_)
  exact ⟨fun q => k0 (fun z => q z.2), fun q => k1 ⟨by omega, Classical.byContradiction q⟩⟩
set_option maxRecDepth 100000 in
set_option maxHeartbeats 4000000 in
theorem mc_numberHere {d : Nat} {h : AbH} {m : Nat} {ad : Nat → Nat} {sc : Nat → Int} {ar : Nat → Nat → Int} {K : Option AbV → AbH → Prop} (hA : mA ad) {T : Nat → Int} {L s : Nat} (hT : txV T L) (ht : tk T L sc ar s) (kk : K (some (vI (numH T L s))) (mH h m ad sc ar)) : Vm (d + 3) m_X10_numberHere [vR (some m)] (mH h m ad sc ar) K := by
  obtain ⟨h4, h3, hs, h5, h6⟩ := ht
  obtain ⟨hL, hb⟩ := hT
  have hE := tkE_le (T := T) hs
  have bad : ¬ (s < L ∧ (48 ≤ T s ∧ T s ≤ 57) ∧ tkE T L s ≤ s + 2) → K (some (vI (-1))) (mH h m ad sc ar) := fun c => by
    unfold numH at kk
    rw [if_neg c] at kk
    exact kk
  refine Vm.intro rfl (Nat.le_of_ble_eq_true rfl) (fun _ => B_X10_numberHere_0 ?_)
  simp only [mCV, kI_some, kL_some, kR_some, kV_none, vu_app, mgR_0, mgR_3, mgR_12, mgR_13, mgR_14, mgR_16, mgR_17, mgR_18, mgR_19, mgR_20, mgR_21, mgR_2, mgR_7, mgI_1, mgI_4, mgI_5, mgI_6, mgI_8, mgI_9, mgI_10, mgI_11, mgI_15, mgI_22, mpI_1, mpI_4, mpI_5, mpI_6, mpI_8, mpI_9, mpI_10, mpI_11, mpI_15, mpI_22, mlI_0 hA, mlI_3 hA, mlI_12 hA, mlI_13 hA, mlI_14 hA, mlI_16 hA, mlI_17 hA, mlI_18 hA, mlI_19 hA, mlI_20 hA, mlI_21 hA, msI_0 hA, msI_3 hA, msI_12 hA, msI_13 hA, msI_14 hA, msI_16 hA, msI_17 hA, msI_18 hA, msI_19 hA, msI_20 hA, msI_21 hA, mlZ_2 hA, mlZ_7 hA, msZ_2 hA, msZ_7 hA, kI_some, kL_some, kR_some, kV_none, ne_eq, not_true_eq_false, not_false_eq_true, true_implies, false_implies, implies_true, true_and, and_true, ab_z01, or_true, true_or, reduceCtorEq, Option.some.injEq, Int.reduceEq, Int.reduceNe, Int.reduceLT, Int.reduceLE, Int.reduceNeg, Int.reduceAdd, Int.reduceSub, Int.reduceMul, Nat.reduceEqDiff, Nat.reduceAdd, Nat.reduceMul, Int.reduceToNat, ↓reduceIte, h4, h5, h3, h6, Int.toNat_natCast]
  refine ⟨fun c => bad (by omega), fun c => ?_⟩
  repeat (first | refine And.intro (by omega) ?_ | refine And.intro (i3 (by omega) (by omega)) ?_)
  refine mc_isDigit (fun c1 => ?_) (fun c1 => ?_) <;> simp only [mCV, kI_some, kL_some, kR_some, kV_none, vu_app, mgR_0, mgR_3, mgR_12, mgR_13, mgR_14, mgR_16, mgR_17, mgR_18, mgR_19, mgR_20, mgR_21, mgR_2, mgR_7, mgI_1, mgI_4, mgI_5, mgI_6, mgI_8, mgI_9, mgI_10, mgI_11, mgI_15, mgI_22, mpI_1, mpI_4, mpI_5, mpI_6, mpI_8, mpI_9, mpI_10, mpI_11, mpI_15, mpI_22, mlI_0 hA, mlI_3 hA, mlI_12 hA, mlI_13 hA, mlI_14 hA, mlI_16 hA, mlI_17 hA, mlI_18 hA, mlI_19 hA, mlI_20 hA, mlI_21 hA, msI_0 hA, msI_3 hA, msI_12 hA, msI_13 hA, msI_14 hA, msI_16 hA, msI_17 hA, msI_18 hA, msI_19 hA, msI_20 hA, msI_21 hA, mlZ_2 hA, mlZ_7 hA, msZ_2 hA, msZ_7 hA, kI_some, kL_some, kR_some, kV_none, ne_eq, not_true_eq_false, not_false_eq_true, true_implies, false_implies, implies_true, true_and, and_true, ab_z01, or_true, true_or, reduceCtorEq, Option.some.injEq, Int.reduceEq, Int.reduceNe, Int.reduceLT, Int.reduceLE, Int.reduceNeg, Int.reduceAdd, Int.reduceSub, Int.reduceMul, Nat.reduceEqDiff, Nat.reduceAdd, Nat.reduceMul, Int.reduceToNat, ↓reduceIte, h4, h5, h3, h6]
  · repeat (first | refine And.intro (by omega) ?_ | refine And.intro (i3 (by omega) (by omega)) ?_)
    refine ⟨fun c2 => ?_, fun c2 => bad (by omega)⟩
    unfold numH at kk
    rw [if_pos ⟨by omega, c1, by omega⟩] at kk
    refine B_X10_numberHere_48 ?_
    simp only [mCV, kI_some, kL_some, kR_some, kV_none, vu_app, mgR_0, mgR_3, mgR_12, mgR_13, mgR_14, mgR_16, mgR_17, mgR_18, mgR_19, mgR_20, mgR_21, mgR_2, mgR_7, mgI_1, mgI_4, mgI_5, mgI_6, mgI_8, mgI_9, mgI_10, mgI_11, mgI_15, mgI_22, mpI_1, mpI_4, mpI_5, mpI_6, mpI_8, mpI_9, mpI_10, mpI_11, mpI_15, mpI_22, mlI_0 hA, mlI_3 hA, mlI_12 hA, mlI_13 hA, mlI_14 hA, mlI_16 hA, mlI_17 hA, mlI_18 hA, mlI_19 hA, mlI_20 hA, mlI_21 hA, msI_0 hA, msI_3 hA, msI_12 hA, msI_13 hA, msI_14 hA, msI_16 hA, msI_17 hA, msI_18 hA, msI_19 hA, msI_20 hA, msI_21 hA, mlZ_2 hA, mlZ_7 hA, msZ_2 hA, msZ_7 hA, kI_some, kL_some, kR_some, kV_none, ne_eq, not_true_eq_false, not_false_eq_true, true_implies, false_implies, implies_true, true_and, and_true, ab_z01, or_true, true_or, reduceCtorEq, Option.some.injEq, Int.reduceEq, Int.reduceNe, Int.reduceLT, Int.reduceLE, Int.reduceNeg, Int.reduceAdd, Int.reduceSub, Int.reduceMul, Nat.reduceEqDiff, Nat.reduceAdd, Nat.reduceMul, Int.reduceToNat, ↓reduceIte, h6, h3, Int.toNat_natCast]
    refine ⟨fun z => absurd z (by omega), fun _ => ?_⟩
    repeat (first | refine And.intro (by omega) ?_ | refine And.intro (i3 (by omega) (by omega)) ?_)
    refine B_X10_numberHere_48 ?_
    simp only [mCV, kI_some, kL_some, kR_some, kV_none, vu_app, mgR_0, mgR_3, mgR_12, mgR_13, mgR_14, mgR_16, mgR_17, mgR_18, mgR_19, mgR_20, mgR_21, mgR_2, mgR_7, mgI_1, mgI_4, mgI_5, mgI_6, mgI_8, mgI_9, mgI_10, mgI_11, mgI_15, mgI_22, mpI_1, mpI_4, mpI_5, mpI_6, mpI_8, mpI_9, mpI_10, mpI_11, mpI_15, mpI_22, mlI_0 hA, mlI_3 hA, mlI_12 hA, mlI_13 hA, mlI_14 hA, mlI_16 hA, mlI_17 hA, mlI_18 hA, mlI_19 hA, mlI_20 hA, mlI_21 hA, msI_0 hA, msI_3 hA, msI_12 hA, msI_13 hA, msI_14 hA, msI_16 hA, msI_17 hA, msI_18 hA, msI_19 hA, msI_20 hA, msI_21 hA, mlZ_2 hA, mlZ_7 hA, msZ_2 hA, msZ_7 hA, kI_some, kL_some, kR_some, kV_none, ne_eq, not_true_eq_false, not_false_eq_true, true_implies, false_implies, implies_true, true_and, and_true, ab_z01, or_true, true_or, reduceCtorEq, Option.some.injEq, Int.reduceEq, Int.reduceNe, Int.reduceLT, Int.reduceLE, Int.reduceNeg, Int.reduceAdd, Int.reduceSub, Int.reduceMul, Nat.reduceEqDiff, Nat.reduceAdd, Nat.reduceMul, Int.reduceToNat, ↓reduceIte, h6, h3]
    refine ⟨fun z => ?_, fun z => ?_⟩
    · rw [if_pos (by omega)] at kk
      rw [show 0 + T s - 48 = T s - 48 by omega]
      exact kk
    · have e2 : tkE T L s = s + 2 := by omega
      rw [if_neg (by omega)] at kk
      have hd2 : 48 ≤ T (s + 1) ∧ T (s + 1) ≤ 57 := kd_2.mp ((tkE_in (T := T) (L := L) (s := s) (j := s + 1) (by omega) (by omega)).trans (kd_2.mpr c1))
      rw [show ((s : Int) + 1).toNat = s + 1 by omega]
      repeat (first | refine And.intro (by omega) ?_ | refine And.intro (i3 (by omega) (by omega)) ?_)
      refine B_X10_numberHere_48 ?_
      simp only [mCV, kI_some, kL_some, kR_some, kV_none, vu_app, mgR_0, mgR_3, mgR_12, mgR_13, mgR_14, mgR_16, mgR_17, mgR_18, mgR_19, mgR_20, mgR_21, mgR_2, mgR_7, mgI_1, mgI_4, mgI_5, mgI_6, mgI_8, mgI_9, mgI_10, mgI_11, mgI_15, mgI_22, mpI_1, mpI_4, mpI_5, mpI_6, mpI_8, mpI_9, mpI_10, mpI_11, mpI_15, mpI_22, mlI_0 hA, mlI_3 hA, mlI_12 hA, mlI_13 hA, mlI_14 hA, mlI_16 hA, mlI_17 hA, mlI_18 hA, mlI_19 hA, mlI_20 hA, mlI_21 hA, msI_0 hA, msI_3 hA, msI_12 hA, msI_13 hA, msI_14 hA, msI_16 hA, msI_17 hA, msI_18 hA, msI_19 hA, msI_20 hA, msI_21 hA, mlZ_2 hA, mlZ_7 hA, msZ_2 hA, msZ_7 hA, kI_some, kL_some, kR_some, kV_none, ne_eq, not_true_eq_false, not_false_eq_true, true_implies, false_implies, implies_true, true_and, and_true, ab_z01, or_true, true_or, reduceCtorEq, Option.some.injEq, Int.reduceEq, Int.reduceNe, Int.reduceLT, Int.reduceLE, Int.reduceNeg, Int.reduceAdd, Int.reduceSub, Int.reduceMul, Nat.reduceEqDiff, Nat.reduceAdd, Nat.reduceMul, Int.reduceToNat, ↓reduceIte, h6]
      refine ⟨fun _ => ?_, fun z => absurd (by omega) z⟩
      rw [show 10 * (0 + T s - 48) + T (s + 1) - 48 = 10 * (T s - 48) + T (s + 1) - 48 by omega]
      exact kk
  · exact bad (fun z => c1 z.2.1)
theorem numH_b {T : Nat → Int} {L s : Nat} (hT : txV T L) (hs : s ≤ L) : -1 ≤ numH T L s ∧ numH T L s ≤ 99 := by
  unfold numH
  by_cases c : s < L ∧ (48 ≤ T s ∧ T s ≤ 57) ∧ tkE T L s ≤ s + 2
  · rw [if_pos c]
    by_cases c2 : tkE T L s = s + 1
    · rw [if_pos c2]; omega
    · rw [if_neg c2]
      have := tkE_le (T := T) hs
      have := kd_2.mp ((tkE_in (T := T) (L := L) (s := s) (j := s + 1) (by omega) (by omega)).trans (kd_2.mpr c.2.1))
      omega
  · rw [if_neg c]; omega
set_option maxRecDepth 100000 in
set_option maxHeartbeats 4000000 in
theorem mc_number {d : Nat} {h : AbH} {m : Nat} {ad : Nat → Nat} {sc : Nat → Int} {ar : Nat → Nat → Int} {K : Option AbV → AbH → Prop} (hA : mA ad) {T : Nat → Int} {L s i : Nat} {a b n : Int} (hT : txV T L) (ht : tk T L sc ar s) (hi : i < 6) (ha : 0 ≤ a) (kf : ¬ ((a ≤ numH T L s ∧ numH T L s ≤ b) ∧ numH T L s ≠ n) → K (some (vI 0)) (mH h m ad sc ar)) (kk : ((a ≤ numH T L s ∧ numH T L s ≤ b) ∧ numH T L s ≠ n) → ∀ sc', mE TS sc ar sc' ar → tk T L sc' (va_up ar 12 (va_up (ar 12) i (numH T L s))) (nx T L s) → K (some (vI 1)) (mH h m ad sc' (va_up ar 12 (va_up (ar 12) i (numH T L s))))) : Vm (d + 4) m_X10_number [vR (some m), vI (i : Int), vI a, vI b, vI n] (mH h m ad sc ar) K := by
  refine Vm.intro rfl (Nat.le_of_ble_eq_true rfl) (fun _ => B_X10_number_0 ?_)
  simp only [mCV]
  refine mc_numberHere hA hT ht ?_
  simp only [kI_some, kL_some, kR_some, kV_none, ne_eq, not_true_eq_false, not_false_eq_true, true_implies, false_implies, implies_true, true_and, and_true, ab_z01, or_true, true_or, reduceCtorEq, Option.some.injEq, Int.reduceEq, Int.reduceNe, Int.reduceLT, Int.reduceLE, Int.reduceNeg, Int.reduceAdd, Int.reduceSub, Int.reduceMul, Nat.reduceEqDiff, Nat.reduceAdd, Nat.reduceMul, Int.reduceToNat, ↓reduceIte]
  refine ⟨fun c => kf (by omega), fun c => ?_⟩
  refine mc_in (fun c1 => ?_) (fun c1 => ?_) <;> simp only [mCV, kI_some, kL_some, kR_some, kV_none, vu_app, mgR_0, mgR_3, mgR_12, mgR_13, mgR_14, mgR_16, mgR_17, mgR_18, mgR_19, mgR_20, mgR_21, mgR_2, mgR_7, mgI_1, mgI_4, mgI_5, mgI_6, mgI_8, mgI_9, mgI_10, mgI_11, mgI_15, mgI_22, mpI_1, mpI_4, mpI_5, mpI_6, mpI_8, mpI_9, mpI_10, mpI_11, mpI_15, mpI_22, mlI_0 hA, mlI_3 hA, mlI_12 hA, mlI_13 hA, mlI_14 hA, mlI_16 hA, mlI_17 hA, mlI_18 hA, mlI_19 hA, mlI_20 hA, mlI_21 hA, msI_0 hA, msI_3 hA, msI_12 hA, msI_13 hA, msI_14 hA, msI_16 hA, msI_17 hA, msI_18 hA, msI_19 hA, msI_20 hA, msI_21 hA, mlZ_2 hA, mlZ_7 hA, msZ_2 hA, msZ_7 hA, kI_some, kL_some, kR_some, kV_none, ne_eq, not_true_eq_false, not_false_eq_true, true_implies, false_implies, implies_true, true_and, and_true, ab_z01, or_true, true_or, reduceCtorEq, Option.some.injEq, Int.reduceEq, Int.reduceNe, Int.reduceLT, Int.reduceLE, Int.reduceNeg, Int.reduceAdd, Int.reduceSub, Int.reduceMul, Nat.reduceEqDiff, Nat.reduceAdd, Nat.reduceMul, Int.reduceToNat, ↓reduceIte, Int.toNat_natCast]
  · refine ⟨fun c2 => ?_, fun c2 => kf (fun z => c2 z.2)⟩
    repeat (first | refine And.intro (by omega) ?_ | refine And.intro (i3 (by omega) (by omega)) ?_)
    obtain ⟨h4, h3, hs, h5, h6⟩ := ht
    refine mc_nextToken hA hT h4 (by rw [vu_ne (by decide)]; exact h3) h6 (tkE_le hs).2.1 (fun sc' hE htk => ?_)
    simp only [kI_some, kL_some, kR_some, kV_none, ne_eq, not_true_eq_false, not_false_eq_true, true_implies, false_implies, implies_true, true_and, and_true, ab_z01, or_true, true_or, reduceCtorEq, Option.some.injEq, Int.reduceEq, Int.reduceNe, Int.reduceLT, Int.reduceLE, Int.reduceNeg, Int.reduceAdd, Int.reduceSub, Int.reduceMul, Nat.reduceEqDiff, Nat.reduceAdd, Nat.reduceMul, Int.reduceToNat, ↓reduceIte]
    exact kk ⟨c1, c2⟩ sc' ⟨hE.1, fun _ _ => rfl⟩ htk
  · exact kf (fun z => c1 z.1)
theorem sndH_b {T : Nat → Int} {L s : Nat} : -1 ≤ sndH T L s ∧ sndH T L s ≤ 25 := by
  unfold sndH
  split <;> omega
set_option maxRecDepth 100000 in
set_option maxHeartbeats 4000000 in
theorem mc_readsSound {d : Nat} {h : AbH} {m : Nat} {ad : Nat → Nat} {sc : Nat → Int} {ar : Nat → Nat → Int} {K : Option AbV → AbH → Prop} (hA : mA ad) {T : Nat → Int} {L s i : Nat} {n : Int} (hT : txV T L) (ht : tk T L sc ar s) (hi : i < 6) (kf : sndH T L s = -1 ∨ sndH T L s = n → K (some (vI 0)) (mH h m ad sc ar)) (kk : ¬ (sndH T L s = -1 ∨ sndH T L s = n) → ∀ sc', mE TS sc ar sc' ar → tk T L sc' (va_up ar 12 (va_up (ar 12) i (sndH T L s))) (nx T L s) → K (some (vI 1)) (mH h m ad sc' (va_up ar 12 (va_up (ar 12) i (sndH T L s))))) : Vm (d + 4) m_X10_readsSound [vR (some m), vI (i : Int), vI n] (mH h m ad sc ar) K := by
  obtain ⟨h4, h3, hs, h5, h6⟩ := ht
  obtain ⟨hL, hb⟩ := id hT
  have hE := tkE_le (T := T) hs
  have bad : ¬ (s < L ∧ (97 ≤ T s ∧ T s ≤ 122) ∧ tkE T L s ≤ s + 1) → K (some (vI 0)) (mH h m ad sc ar) := fun c => kf (Or.inl (by unfold sndH; rw [if_neg c]))
  refine Vm.intro rfl (Nat.le_of_ble_eq_true rfl) (fun _ => B_X10_readsSound_0 ?_)
  simp only [mCV, kI_some, kL_some, kR_some, kV_none, vu_app, mgR_0, mgR_3, mgR_12, mgR_13, mgR_14, mgR_16, mgR_17, mgR_18, mgR_19, mgR_20, mgR_21, mgR_2, mgR_7, mgI_1, mgI_4, mgI_5, mgI_6, mgI_8, mgI_9, mgI_10, mgI_11, mgI_15, mgI_22, mpI_1, mpI_4, mpI_5, mpI_6, mpI_8, mpI_9, mpI_10, mpI_11, mpI_15, mpI_22, mlI_0 hA, mlI_3 hA, mlI_12 hA, mlI_13 hA, mlI_14 hA, mlI_16 hA, mlI_17 hA, mlI_18 hA, mlI_19 hA, mlI_20 hA, mlI_21 hA, msI_0 hA, msI_3 hA, msI_12 hA, msI_13 hA, msI_14 hA, msI_16 hA, msI_17 hA, msI_18 hA, msI_19 hA, msI_20 hA, msI_21 hA, mlZ_2 hA, mlZ_7 hA, msZ_2 hA, msZ_7 hA, kI_some, kL_some, kR_some, kV_none, ne_eq, not_true_eq_false, not_false_eq_true, true_implies, false_implies, implies_true, true_and, and_true, ab_z01, or_true, true_or, reduceCtorEq, Option.some.injEq, Int.reduceEq, Int.reduceNe, Int.reduceLT, Int.reduceLE, Int.reduceNeg, Int.reduceAdd, Int.reduceSub, Int.reduceMul, Nat.reduceEqDiff, Nat.reduceAdd, Nat.reduceMul, Int.reduceToNat, ↓reduceIte, h4, h5, h3, h6, Int.toNat_natCast]
  refine ⟨fun c => bad (by omega), fun c => ?_⟩
  repeat (first | refine And.intro (by omega) ?_ | refine And.intro (i3 (by omega) (by omega)) ?_)
  refine mc_isSmall (fun c1 => ?_) (fun c1 => ?_) <;> simp only [mCV, kI_some, kL_some, kR_some, kV_none, vu_app, mgR_0, mgR_3, mgR_12, mgR_13, mgR_14, mgR_16, mgR_17, mgR_18, mgR_19, mgR_20, mgR_21, mgR_2, mgR_7, mgI_1, mgI_4, mgI_5, mgI_6, mgI_8, mgI_9, mgI_10, mgI_11, mgI_15, mgI_22, mpI_1, mpI_4, mpI_5, mpI_6, mpI_8, mpI_9, mpI_10, mpI_11, mpI_15, mpI_22, mlI_0 hA, mlI_3 hA, mlI_12 hA, mlI_13 hA, mlI_14 hA, mlI_16 hA, mlI_17 hA, mlI_18 hA, mlI_19 hA, mlI_20 hA, mlI_21 hA, msI_0 hA, msI_3 hA, msI_12 hA, msI_13 hA, msI_14 hA, msI_16 hA, msI_17 hA, msI_18 hA, msI_19 hA, msI_20 hA, msI_21 hA, mlZ_2 hA, mlZ_7 hA, msZ_2 hA, msZ_7 hA, kI_some, kL_some, kR_some, kV_none, ne_eq, not_true_eq_false, not_false_eq_true, true_implies, false_implies, implies_true, true_and, and_true, ab_z01, or_true, true_or, reduceCtorEq, Option.some.injEq, Int.reduceEq, Int.reduceNe, Int.reduceLT, Int.reduceLE, Int.reduceNeg, Int.reduceAdd, Int.reduceSub, Int.reduceMul, Nat.reduceEqDiff, Nat.reduceAdd, Nat.reduceMul, Int.reduceToNat, ↓reduceIte, h4, h5, h3, h6, Int.toNat_natCast]
  · repeat (first | refine And.intro (by omega) ?_ | refine And.intro (i3 (by omega) (by omega)) ?_)
    refine ⟨fun c2 => bad (by omega), fun c2 => ?_⟩
    repeat (first | refine And.intro (by omega) ?_ | refine And.intro (i3 (by omega) (by omega)) ?_)
    have e : sndH T L s = T s - 97 := by unfold sndH; rw [if_pos ⟨by omega, c1, by omega⟩]
    rw [e] at kf kk
    refine ⟨fun c3 => ?_, fun c3 => kf (Or.inr (Classical.byContradiction c3))⟩
    repeat (first | refine And.intro (by omega) ?_ | refine And.intro (i3 (by omega) (by omega)) ?_)
    refine mc_nextToken hA hT h4 (by rw [vu_ne (by decide)]; exact h3) h6 hE.2.1 (fun sc' hE htk => ?_)
    simp only [kI_some, kL_some, kR_some, kV_none, ne_eq, not_true_eq_false, not_false_eq_true, true_implies, false_implies, implies_true, true_and, and_true, ab_z01, or_true, true_or, reduceCtorEq, Option.some.injEq, Int.reduceEq, Int.reduceNe, Int.reduceLT, Int.reduceLE, Int.reduceNeg, Int.reduceAdd, Int.reduceSub, Int.reduceMul, Nat.reduceEqDiff, Nat.reduceAdd, Nat.reduceMul, Int.reduceToNat, ↓reduceIte]
    exact kk (fun z => by omega) sc' ⟨hE.1, fun _ _ => rfl⟩ htk
  · exact bad (fun z => c1 z.2.1)
