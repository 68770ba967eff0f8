def bL (w : Nat → Int) (z i : Nat) : Bool := decide (z = 0) || anyN (fun k => decide (lw w k 1 = (z : Int))) i
def bM (w : Nat → Int) (z i : Nat) : Bool := bL w z (nl w) || anyN (fun p => decide (w (98 + 2 * p) = (z : Int) + 1)) i
theorem bL_s {w : Nat → Int} {z i : Nat} : bL w z (i + 1) = (bL w z i || decide (lw w i 1 = (z : Int))) := by
  unfold bL
  rw [Bool.or_assoc]
  rfl
theorem bM_s {w : Nat → Int} {z i : Nat} : bM w z (i + 1) = (bM w z i || decide (w (98 + 2 * i) = (z : Int) + 1)) := by
  unfold bM
  rw [Bool.or_assoc]
  rfl
set_option maxRecDepth 100000 in
set_option maxHeartbeats 4000000 in
theorem mc_isBeginning {d : Nat} {h : AbH} {m : Nat} {ad : Nat → Nat} {sc : Nat → Int} {ar : Nat → Nat → Int} {K : Option AbV → AbH → Prop} (hA : mA ad) {z : Nat} (hw : wV (ar 0)) (hz : z ≤ 99) (kk : K (some (vI (b2i (begB (ar 0) z)))) (mH h m ad sc ar)) : Vm (d + 2) m_X10_isBeginning [vR (some m), vI (z : Int)] (mH h m ad sc ar) K := by
  obtain ⟨n1, n2⟩ := hw.nlw
  have F50 : ∀ i, i ≤ 16 → Vx (d + 2) m_X10_isBeginning 0 0 50 [some (vR (some m)), some (vI (z : Int)), some (vI (b2i (bM (ar 0) z i))), some (vI (i : Int))] [] (mH h m ad sc ar) K := by
    refine lp_up (P := fun i => Vx (d + 2) m_X10_isBeginning 0 0 50 [some (vR (some m)), some (vI (z : Int)), some (vI (b2i (bM (ar 0) z i))), some (vI (i : Int))] [] (mH h m ad sc ar) K) (n := 16) ?_ ?_
    · refine B_X10_isBeginning_50 ⟨fun _ => ⟨b2i_01 _, kk⟩, fun c => absurd (by decide) c⟩
    · intro i hi ih
      refine B_X10_isBeginning_50 ⟨fun c => absurd c (by omega), fun _ => ?_⟩
      rw [bM_s] at ih
      cases hb : bM (ar 0) z i with
      | true =>
        rw [hb] at ih
        exact ⟨fun _ => ⟨i3 (by omega) (by omega), ih⟩, fun c => absurd (show b2i true ≠ 0 by decide) c⟩
      | false =>
        rw [hb, Bool.false_or] at ih
        refine ⟨fun c => absurd rfl c, fun _ => ?_⟩
        simp only [mCV, kI_some, kL_some, kR_some, kV_none, vu_app, mgR_0, mgR_3, mgR_12, mgR_13, mgR_14, mgR_16, mgR_17, mgR_18, mgR_19, mgR_20, mgR_21, mgR_2, mgR_7, mgI_1, mgI_4, mgI_5, mgI_6, mgI_8, mgI_9, mgI_10, mgI_11, mgI_15, mgI_22, mpI_1, mpI_4, mpI_5, mpI_6, mpI_8, mpI_9, mpI_10, mpI_11, mpI_15, mpI_22, mlI_0 hA, mlI_3 hA, mlI_12 hA, mlI_13 hA, mlI_14 hA, mlI_16 hA, mlI_17 hA, mlI_18 hA, mlI_19 hA, mlI_20 hA, mlI_21 hA, msI_0 hA, msI_3 hA, msI_12 hA, msI_13 hA, msI_14 hA, msI_16 hA, msI_17 hA, msI_18 hA, msI_19 hA, msI_20 hA, msI_21 hA, mlZ_2 hA, mlZ_7 hA, msZ_2 hA, msZ_7 hA, kI_some, kL_some, kR_some, kV_none, ne_eq, not_true_eq_false, not_false_eq_true, true_implies, false_implies, implies_true, true_and, and_true, ab_z01, or_true, true_or, reduceCtorEq, Option.some.injEq, Int.reduceEq, Int.reduceNe, Int.reduceLT, Int.reduceLE, Int.reduceNeg, Int.reduceAdd, Int.reduceSub, Int.reduceMul, Nat.reduceEqDiff, Nat.reduceAdd, Nat.reduceMul, Int.reduceToNat, ↓reduceIte]
        rw [show (98 + 2 * (i : Int)).toNat = 98 + 2 * i by omega]
        repeat (first | refine And.intro (by omega) ?_ | refine And.intro (i3 (by omega) (by omega)) ?_)
        refine ⟨fun c => ⟨i3 (by omega) (by omega), ?_⟩, fun c => ⟨i3 (by omega) (by omega), ?_⟩⟩
        · rw [decide_eq_false c] at ih; exact ih
        · rw [decide_eq_true (by omega)] at ih; exact ih
  have F12 : ∀ i, i ≤ nl (ar 0) → Vx (d + 2) m_X10_isBeginning 0 0 12 [some (vR (some m)), some (vI (z : Int)), some (vI (b2i (bL (ar 0) z i))), some (vI (i : Int))] [] (mH h m ad sc ar) K := by
    refine lp_up (P := fun i => Vx (d + 2) m_X10_isBeginning 0 0 12 [some (vR (some m)), some (vI (z : Int)), some (vI (b2i (bL (ar 0) z i))), some (vI (i : Int))] [] (mH h m ad sc ar) K) (n := nl (ar 0)) ?_ ?_
    · refine B_X10_isBeginning_12 ?_
      simp only [mCV, kI_some, kL_some, kR_some, kV_none, vu_app, mgR_0, mgR_3, mgR_12, mgR_13, mgR_14, mgR_16, mgR_17, mgR_18, mgR_19, mgR_20, mgR_21, mgR_2, mgR_7, mgI_1, mgI_4, mgI_5, mgI_6, mgI_8, mgI_9, mgI_10, mgI_11, mgI_15, mgI_22, mpI_1, mpI_4, mpI_5, mpI_6, mpI_8, mpI_9, mpI_10, mpI_11, mpI_15, mpI_22, mlI_0 hA, mlI_3 hA, mlI_12 hA, mlI_13 hA, mlI_14 hA, mlI_16 hA, mlI_17 hA, mlI_18 hA, mlI_19 hA, mlI_20 hA, mlI_21 hA, msI_0 hA, msI_3 hA, msI_12 hA, msI_13 hA, msI_14 hA, msI_16 hA, msI_17 hA, msI_18 hA, msI_19 hA, msI_20 hA, msI_21 hA, mlZ_2 hA, mlZ_7 hA, msZ_2 hA, msZ_7 hA, kI_some, kL_some, kR_some, kV_none, ne_eq, not_true_eq_false, not_false_eq_true, true_implies, false_implies, implies_true, true_and, and_true, ab_z01, or_true, true_or, reduceCtorEq, Option.some.injEq, Int.reduceEq, Int.reduceNe, Int.reduceLT, Int.reduceLE, Int.reduceNeg, Int.reduceAdd, Int.reduceSub, Int.reduceMul, Nat.reduceEqDiff, Nat.reduceAdd, Nat.reduceMul, Int.reduceToNat, ↓reduceIte]
      refine ⟨fun _ => ?_, fun c => absurd (by omega) c⟩
      have z := F50 0 (by decide)
      unfold bM anyN at z
      rw [Bool.or_false] at z
      exact z
    · intro i hi ih
      refine B_X10_isBeginning_12 ?_
      simp only [mCV, kI_some, kL_some, kR_some, kV_none, vu_app, mgR_0, mgR_3, mgR_12, mgR_13, mgR_14, mgR_16, mgR_17, mgR_18, mgR_19, mgR_20, mgR_21, mgR_2, mgR_7, mgI_1, mgI_4, mgI_5, mgI_6, mgI_8, mgI_9, mgI_10, mgI_11, mgI_15, mgI_22, mpI_1, mpI_4, mpI_5, mpI_6, mpI_8, mpI_9, mpI_10, mpI_11, mpI_15, mpI_22, mlI_0 hA, mlI_3 hA, mlI_12 hA, mlI_13 hA, mlI_14 hA, mlI_16 hA, mlI_17 hA, mlI_18 hA, mlI_19 hA, mlI_20 hA, mlI_21 hA, msI_0 hA, msI_3 hA, msI_12 hA, msI_13 hA, msI_14 hA, msI_16 hA, msI_17 hA, msI_18 hA, msI_19 hA, msI_20 hA, msI_21 hA, mlZ_2 hA, mlZ_7 hA, msZ_2 hA, msZ_7 hA, kI_some, kL_some, kR_some, kV_none, ne_eq, not_true_eq_false, not_false_eq_true, true_implies, false_implies, implies_true, true_and, and_true, ab_z01, or_true, true_or, reduceCtorEq, Option.some.injEq, Int.reduceEq, Int.reduceNe, Int.reduceLT, Int.reduceLE, Int.reduceNeg, Int.reduceAdd, Int.reduceSub, Int.reduceMul, Nat.reduceEqDiff, Nat.reduceAdd, Nat.reduceMul, Int.reduceToNat, ↓reduceIte]
      refine ⟨fun c => absurd c (by omega), fun _ => ?_⟩
      rw [bL_s] at ih
      cases hb : bL (ar 0) z i with
      | true =>
        rw [hb] at ih
        exact ⟨fun _ => ⟨i3 (by omega) (by omega), ih⟩, fun c => absurd (show ¬ b2i true = 0 by decide) c⟩
      | false =>
        rw [hb, Bool.false_or] at ih
        refine ⟨fun c => absurd rfl c, fun _ => ?_⟩
        refine mc_lawOf hA (j := 1) (by omega) (by decide) ?_
        simp only [kI_some, kL_some, kR_some, kV_none, ne_eq, not_true_eq_false, not_false_eq_true, true_implies, false_implies, implies_true, true_and, and_true, ab_z01, or_true, true_or, reduceCtorEq, Option.some.injEq, Int.reduceEq, Int.reduceNe, Int.reduceLT, Int.reduceLE, Int.reduceNeg, Int.reduceAdd, Int.reduceSub, Int.reduceMul, Nat.reduceEqDiff, Nat.reduceAdd, Nat.reduceMul, Int.reduceToNat, ↓reduceIte]
        refine ⟨fun c => ⟨i3 (by omega) (by omega), ?_⟩, fun c => ⟨i3 (by omega) (by omega), ?_⟩⟩
        · rw [decide_eq_false (show ¬ lw (ar 0) i 1 = (z : Int) from c)] at ih; exact ih
        · rw [decide_eq_true (show lw (ar 0) i 1 = (z : Int) from Classical.byContradiction c)] at ih; exact ih
  refine Vm.intro rfl (Nat.le_of_ble_eq_true rfl) (fun _ => B_X10_isBeginning_0 ?_)
  have z0 := F12 0 (by omega)
  refine ⟨fun c => ?_, fun c => ?_⟩
  · rw [show bL (ar 0) z 0 = false by unfold bL anyN; rw [decide_eq_false (by omega)]; rfl] at z0
    exact z0
  · rw [show bL (ar 0) z 0 = true by unfold bL anyN; rw [decide_eq_true (by omega)]; rfl] at z0
    exact z0
abbrev DS : List Nat := [21, 22]
set_option maxRecDepth 100000 in
set_option maxHeartbeats 4000000 in
theorem mc_findsDates {d : Nat} {h : AbH} {m : Nat} {ad : Nat → Nat} {sc : Nat → Int} {ar : Nat → Nat → Int} {K : Option AbV → AbH → Prop} (hA : mA ad) (hw : wV (ar 0)) (kk : ∀ sc' ar' (n : Nat) (D : Nat → Nat), mE DS sc ar sc' ar' → sc' 22 = (n : Int) → n ≤ 33 → isD (ar 0) 100 n D → (∀ i, i < n → ar' 21 i = (D i : Int)) → K none (mH h m ad sc' ar')) : Vm (d + 3) m_X10_findsDates [vR (some m)] (mH h m ad sc ar) K := by
  obtain ⟨n1, n2⟩ := hw.nlw
  refine Vm.intro rfl (Nat.le_of_ble_eq_true rfl) (fun _ => B_X10_findsDates_0 ?_)
  simp only [mCV, kI_some, kL_some, kR_some, kV_none, vu_app, mgR_0, mgR_3, mgR_12, mgR_13, mgR_14, mgR_16, mgR_17, mgR_18, mgR_19, mgR_20, mgR_21, mgR_2, mgR_7, mgI_1, mgI_4, mgI_5, mgI_6, mgI_8, mgI_9, mgI_10, mgI_11, mgI_15, mgI_22, mpI_1, mpI_4, mpI_5, mpI_6, mpI_8, mpI_9, mpI_10, mpI_11, mpI_15, mpI_22, mlI_0 hA, mlI_3 hA, mlI_12 hA, mlI_13 hA, mlI_14 hA, mlI_16 hA, mlI_17 hA, mlI_18 hA, mlI_19 hA, mlI_20 hA, mlI_21 hA, msI_0 hA, msI_3 hA, msI_12 hA, msI_13 hA, msI_14 hA, msI_16 hA, msI_17 hA, msI_18 hA, msI_19 hA, msI_20 hA, msI_21 hA, mlZ_2 hA, mlZ_7 hA, msZ_2 hA, msZ_7 hA, kI_some, kL_some, kR_some, kV_none, ne_eq, not_true_eq_false, not_false_eq_true, true_implies, false_implies, implies_true, true_and, and_true, ab_z01, or_true, true_or, reduceCtorEq, Option.some.injEq, Int.reduceEq, Int.reduceNe, Int.reduceLT, Int.reduceLE, Int.reduceNeg, Int.reduceAdd, Int.reduceSub, Int.reduceMul, Nat.reduceEqDiff, Nat.reduceAdd, Nat.reduceMul, Int.reduceToNat, ↓reduceIte]
  refine lp_up (P := fun z => ∀ sc' ar' D, mE DS sc ar sc' ar' → sc' 22 = (cntN (begB (ar 0)) z : Int) → isD (ar 0) z (cntN (begB (ar 0)) z) D → (∀ i, i < cntN (begB (ar 0)) z → ar' 21 i = (D i : Int)) → Vx (d + 3) m_X10_findsDates 0 0 7 [some (vR (some m)), some (vI (z : Int))] [] (mH h m ad sc' ar') K) (n := 100) ?_ ?_ 0 (by omega) _ ar (fun _ => 0) (mE.rf.sc (by decide)) vu_same ⟨fun i hi => absurd hi (by unfold cntN; omega), fun i j hij hj => absurd hj (by unfold cntN; omega), fun d hd => absurd hd (by omega)⟩ (fun i hi => absurd hi (by unfold cntN; omega))
  · intro sc' ar' D hE h1 h2 h3
    exact B_X10_findsDates_7 ⟨fun _ => kk sc' ar' _ D hE h1 (beg_cnt n2 _) h2 h3, fun c => absurd (by decide) c⟩
  · intro z hz ih sc' ar' D hE h1 h2 h3
    have e0 : ar' 0 = ar 0 := hE.2 0 (by decide)
    refine B_X10_findsDates_7 ⟨fun c => absurd c (by omega), fun _ => ?_⟩
    simp only [mCV]
    refine mc_isBeginning hA (by rw [e0]; exact hw) (by omega) ?_
    simp only [kI_some, kL_some, kR_some, kV_none, ne_eq, not_true_eq_false, not_false_eq_true, true_implies, false_implies, implies_true, true_and, and_true, ab_z01, or_true, true_or, reduceCtorEq, Option.some.injEq, Int.reduceEq, Int.reduceNe, Int.reduceLT, Int.reduceLE, Int.reduceNeg, Int.reduceAdd, Int.reduceSub, Int.reduceMul, Nat.reduceEqDiff, Nat.reduceAdd, Nat.reduceMul, Int.reduceToNat, ↓reduceIte]
    rw [e0]
    have hc := beg_cnt n2 z
    have hs : cntN (begB (ar 0)) (z + 1) = cntN (begB (ar 0)) z + (if begB (ar 0) z = true then 1 else 0) := rfl
    cases hb : begB (ar 0) z with
    | false =>
      refine ⟨fun _ => ⟨i3 (by omega) (by omega), ?_⟩, fun c => absurd rfl c⟩
      rw [if_neg (by rw [hb]; decide), Nat.add_zero] at hs
      exact ih sc' ar' D hE (by rw [hs]; exact h1) (by rw [hs]; exact isD_no h2 (by rw [hb]; decide)) (by rw [hs]; exact h3)
    | true =>
      refine ⟨fun c => absurd c (by decide), fun _ => ?_⟩
      rw [if_pos hb] at hs
      simp only [mCV, kI_some, kL_some, kR_some, kV_none, vu_app, mgR_0, mgR_3, mgR_12, mgR_13, mgR_14, mgR_16, mgR_17, mgR_18, mgR_19, mgR_20, mgR_21, mgR_2, mgR_7, mgI_1, mgI_4, mgI_5, mgI_6, mgI_8, mgI_9, mgI_10, mgI_11, mgI_15, mgI_22, mpI_1, mpI_4, mpI_5, mpI_6, mpI_8, mpI_9, mpI_10, mpI_11, mpI_15, mpI_22, mlI_0 hA, mlI_3 hA, mlI_12 hA, mlI_13 hA, mlI_14 hA, mlI_16 hA, mlI_17 hA, mlI_18 hA, mlI_19 hA, mlI_20 hA, mlI_21 hA, msI_0 hA, msI_3 hA, msI_12 hA, msI_13 hA, msI_14 hA, msI_16 hA, msI_17 hA, msI_18 hA, msI_19 hA, msI_20 hA, msI_21 hA, mlZ_2 hA, mlZ_7 hA, msZ_2 hA, msZ_7 hA, kI_some, kL_some, kR_some, kV_none, ne_eq, not_true_eq_false, not_false_eq_true, true_implies, false_implies, implies_true, true_and, and_true, ab_z01, or_true, true_or, reduceCtorEq, Option.some.injEq, Int.reduceEq, Int.reduceNe, Int.reduceLT, Int.reduceLE, Int.reduceNeg, Int.reduceAdd, Int.reduceSub, Int.reduceMul, Nat.reduceEqDiff, Nat.reduceAdd, Nat.reduceMul, Int.reduceToNat, ↓reduceIte, h1, Int.toNat_natCast]
      repeat (first | refine And.intro (by omega) ?_ | refine And.intro (i3 (by omega) (by omega)) ?_)
      refine ih _ _ (va_up D (cntN (begB (ar 0)) z) z) ((hE.sc (by decide)).ar (by decide)) (by rw [vu_same, hs]; omega) (by rw [hs]; exact isD_yes h2 hb) (fun i hi => ?_)
      rw [vu_same, vu_app, vu_app]
      by_cases q : i = cntN (begB (ar 0)) z
      · rw [if_pos q, if_pos q]
      · rw [if_neg q, if_neg q]
        exact h3 i (by omega)
set_option maxRecDepth 100000 in
set_option maxHeartbeats 4000000 in
theorem mc_steps {d : Nat} {h : AbH} {m : Nat} {ad : Nat → Nat} {sc : Nat → Int} {ar : Nat → Nat → Int} {K : Option AbV → AbH → Prop} (hA : mA ad) {i j : Nat} {D : Nat → Nat} (hi : i < 3) (hj : j < 132) (hD : ar 21 (j / 4) = (D (j / 4) : Int)) (hb : D (j / 4) < 100) (kk : K none (mH h m ad sc (va_up ar 20 (va_up (ar 20) i (cdD D j : Int))))) : Vm (d + 1) m_X10_steps [vR (some m), vI (i : Int), vI (j : Int)] (mH h m ad sc ar) K := by
  refine Vm.intro rfl (Nat.le_of_ble_eq_true rfl) (fun _ => B_X10_steps_0 ?_)
  simp only [mCV, kI_some, kL_some, kR_some, kV_none, vu_app, mgR_0, mgR_3, mgR_12, mgR_13, mgR_14, mgR_16, mgR_17, mgR_18, mgR_19, mgR_20, mgR_21, mgR_2, mgR_7, mgI_1, mgI_4, mgI_5, mgI_6, mgI_8, mgI_9, mgI_10, mgI_11, mgI_15, mgI_22, mpI_1, mpI_4, mpI_5, mpI_6, mpI_8, mpI_9, mpI_10, mpI_11, mpI_15, mpI_22, mlI_0 hA, mlI_3 hA, mlI_12 hA, mlI_13 hA, mlI_14 hA, mlI_16 hA, mlI_17 hA, mlI_18 hA, mlI_19 hA, mlI_20 hA, mlI_21 hA, msI_0 hA, msI_3 hA, msI_12 hA, msI_13 hA, msI_14 hA, msI_16 hA, msI_17 hA, msI_18 hA, msI_19 hA, msI_20 hA, msI_21 hA, mlZ_2 hA, mlZ_7 hA, msZ_2 hA, msZ_7 hA, kI_some, kL_some, kR_some, kV_none, ne_eq, not_true_eq_false, not_false_eq_true, true_implies, false_implies, implies_true, true_and, and_true, ab_z01, or_true, true_or, reduceCtorEq, Option.some.injEq, Int.reduceEq, Int.reduceNe, Int.reduceLT, Int.reduceLE, Int.reduceNeg, Int.reduceAdd, Int.reduceSub, Int.reduceMul, Nat.reduceEqDiff, Nat.reduceAdd, Nat.reduceMul, Int.reduceToNat, ↓reduceIte, Int.toNat_natCast]
  rw [show (((j : Int) / 4).toNat) = j / 4 by omega, hD]
  repeat (first | refine And.intro (by omega) ?_ | refine And.intro (i3 (by omega) (by omega)) ?_)
  rw [show 4 * (D (j / 4) : Int) + (j : Int) % 4 = (cdD D j : Int) by unfold cdD; omega]
  exact kk
set_option maxRecDepth 100000 in
set_option maxHeartbeats 4000000 in
theorem mc_arrives {d : Nat} {h : AbH} {m : Nat} {ad : Nat → Nat} {sc : Nat → Int} {ar : Nat → Nat → Int} {K : Option AbV → AbH → Prop} (hA : mA ad) {k e n : Nat} {t g : Int} {l : List Nat} (hw : wV (ar 0)) (hk : k < no (ar 0)) (he : e < no (ar 0)) (ht : tg t) (hn : l.length = n) (hn3 : n ≤ 3) (hl : ∀ j, j < l.length → ar 20 j = ((l.getD j 0 : Nat) : Int) ∧ l.getD j 0 < 400) (k1 : arrM (ar 0) (wend (ar 0) e) g t 0 (word (ar 0) k) l → ∀ sc' ar', mE FS sc ar sc' ar' → K (some (vI 1)) (mH h m ad sc' ar')) (k0 : ¬ arrM (ar 0) (wend (ar 0) e) g t 0 (word (ar 0) k) l → ∀ sc' ar', mE FS sc ar sc' ar' → K (some (vI 0)) (mH h m ad sc' ar')) : Vm (d + 5) m_X10_arrives [vR (some m), vI (k : Int), vI t, vI (e : Int), vI g, vI (n : Int)] (mH h m ad sc ar) K := by
  obtain ⟨n1, n2⟩ := hw.now
  have key : ∀ (l : List Nat) (i : Nat) (t1 : Int) (s : Nat) (f : List Int) sc' ar', mE FS sc ar sc' ar' → MF sc' ar' f → fV f → tg t1 → (∀ j, j < l.length → ar 20 (i + j) = ((l.getD j 0 : Nat) : Int) ∧ l.getD j 0 < 400) → i + l.length = n → (arrM (ar 0) (wend (ar 0) e) g t1 s f l → ∀ sc' ar', mE FS sc ar sc' ar' → K (some (vI 1)) (mH h m ad sc' ar')) → (¬ arrM (ar 0) (wend (ar 0) e) g t1 s f l → ∀ sc' ar', mE FS sc ar sc' ar' → K (some (vI 0)) (mH h m ad sc' ar')) → Vx (d + 5) m_X10_arrives 0 0 14 [some (vR (some m)), some (vI (k : Int)), some (vI t), some (vI (e : Int)), some (vI g), some (vI (n : Int)), some (vI t1), some (vI (s : Int)), some (vI (i : Int)), none] [] (mH h m ad sc' ar') K := by
    intro l
    induction l with
    | nil =>
      intro i t1 s f sc' ar' hE hF hf ht1 hl hi k1 k0
      have e0 : ar' 0 = ar 0 := hE.2 0 (by decide)
      refine B_X10_arrives_14 ⟨fun _ => ?_, fun c => absurd (by simp at hi; omega) c⟩
      simp only [mCV]
      refine mc_goes hA (by rw [e0]; exact hw.L) hf hF (fun sc2 ar2 hE2 hF2 => ?_)
      rw [e0] at hF2
      have e2 : ar2 0 = ar 0 := (hE2.2 0 (by decide)).trans e0
      simp only [mCV, kI_some, kL_some, kR_some, kV_none, vu_app, mgR_0, mgR_3, mgR_12, mgR_13, mgR_14, mgR_16, mgR_17, mgR_18, mgR_19, mgR_20, mgR_21, mgR_2, mgR_7, mgI_1, mgI_4, mgI_5, mgI_6, mgI_8, mgI_9, mgI_10, mgI_11, mgI_15, mgI_22, mpI_1, mpI_4, mpI_5, mpI_6, mpI_8, mpI_9, mpI_10, mpI_11, mpI_15, mpI_22, mlI_0 hA, mlI_3 hA, mlI_12 hA, mlI_13 hA, mlI_14 hA, mlI_16 hA, mlI_17 hA, mlI_18 hA, mlI_19 hA, mlI_20 hA, mlI_21 hA, msI_0 hA, msI_3 hA, msI_12 hA, msI_13 hA, msI_14 hA, msI_16 hA, msI_17 hA, msI_18 hA, msI_19 hA, msI_20 hA, msI_21 hA, mlZ_2 hA, mlZ_7 hA, msZ_2 hA, msZ_7 hA, kI_some, kL_some, kR_some, kV_none, ne_eq, not_true_eq_false, not_false_eq_true, true_implies, false_implies, implies_true, true_and, and_true, ab_z01, or_true, true_or, reduceCtorEq, Option.some.injEq, Int.reduceEq, Int.reduceNe, Int.reduceLT, Int.reduceLE, Int.reduceNeg, Int.reduceAdd, Int.reduceSub, Int.reduceMul, Nat.reduceEqDiff, Nat.reduceAdd, Nat.reduceMul, Int.reduceToNat, ↓reduceIte]
      refine ⟨fun c => k0 (fun z => c z.1) _ _ (hE.tr hE2), fun c => ?_⟩
      refine mc_isEnd hA (by omega) (by rw [e2]; exact hw.2.2.2.2 e he) (dev_V hw.L hf) hF2 ?_
      simp only [kI_some, kL_some, kR_some, kV_none, ne_eq, not_true_eq_false, not_false_eq_true, true_implies, false_implies, implies_true, true_and, and_true, ab_z01, or_true, true_or, reduceCtorEq, Option.some.injEq, Int.reduceEq, Int.reduceNe, Int.reduceLT, Int.reduceLE, Int.reduceNeg, Int.reduceAdd, Int.reduceSub, Int.reduceMul, Nat.reduceEqDiff, Nat.reduceAdd, Nat.reduceMul, Int.reduceToNat, ↓reduceIte]
      rw [e2]
      by_cases q : dev (ar 0) t1 (s : Int) 99 f = wend (ar 0) e
      · rw [decide_eq_true q]
        exact ⟨fun z => absurd z (by decide), fun _ => k1 ⟨Classical.byContradiction c, q⟩ _ _ (hE.tr hE2)⟩
      · rw [decide_eq_false q]
        exact ⟨fun _ => k0 (fun z => q z.2) _ _ (hE.tr hE2), fun z => absurd rfl z⟩
    | cons c cs ih =>
      intro i t1 s f sc' ar' hE hF hf ht1 hl hi k1 k0
      have e0 : ar' 0 = ar 0 := hE.2 0 (by decide)
      have e20 : ar' 20 = ar 20 := hE.2 20 (by decide)
      have hlen : (c :: cs).length = cs.length + 1 := rfl
      rw [hlen] at hi
      obtain ⟨q1, q2⟩ := hl 0 (by omega)
      have q2 : c < 400 := q2
      have q1 : ar 20 i = (c : Int) := q1
      refine B_X10_arrives_14 ⟨fun z => absurd z (by omega), fun _ => ?_⟩
      simp only [mCV, kI_some, kL_some, kR_some, kV_none, vu_app, mgR_0, mgR_3, mgR_12, mgR_13, mgR_14, mgR_16, mgR_17, mgR_18, mgR_19, mgR_20, mgR_21, mgR_2, mgR_7, mgI_1, mgI_4, mgI_5, mgI_6, mgI_8, mgI_9, mgI_10, mgI_11, mgI_15, mgI_22, mpI_1, mpI_4, mpI_5, mpI_6, mpI_8, mpI_9, mpI_10, mpI_11, mpI_15, mpI_22, mlI_0 hA, mlI_3 hA, mlI_12 hA, mlI_13 hA, mlI_14 hA, mlI_16 hA, mlI_17 hA, mlI_18 hA, mlI_19 hA, mlI_20 hA, mlI_21 hA, msI_0 hA, msI_3 hA, msI_12 hA, msI_13 hA, msI_14 hA, msI_16 hA, msI_17 hA, msI_18 hA, msI_19 hA, msI_20 hA, msI_21 hA, mlZ_2 hA, mlZ_7 hA, msZ_2 hA, msZ_7 hA, kI_some, kL_some, kR_some, kV_none, ne_eq, not_true_eq_false, not_false_eq_true, true_implies, false_implies, implies_true, true_and, and_true, ab_z01, or_true, true_or, reduceCtorEq, Option.some.injEq, Int.reduceEq, Int.reduceNe, Int.reduceLT, Int.reduceLE, Int.reduceNeg, Int.reduceAdd, Int.reduceSub, Int.reduceMul, Nat.reduceEqDiff, Nat.reduceAdd, Nat.reduceMul, Int.reduceToNat, ↓reduceIte, e20, Int.toNat_natCast, q1]
      repeat (first | refine And.intro (by omega) ?_ | refine And.intro (i3 (by omega) (by omega)) ?_)
      rw [show (c : Int) % 4 = ((c % 4 : Nat) : Int) by omega, show (c : Int) / 4 = ((c / 4 : Nat) : Int) by omega]
      have htc : tg ((c % 4 : Nat) : Int) := ⟨by omega, by omega⟩
      refine mc_isMet hA ht1 htc (by rw [e0]; exact hw.met) (fun z => ?_) (fun z => ?_) <;> simp only [mCV, kI_some, kL_some, kR_some, kV_none, vu_app, mgR_0, mgR_3, mgR_12, mgR_13, mgR_14, mgR_16, mgR_17, mgR_18, mgR_19, mgR_20, mgR_21, mgR_2, mgR_7, mgI_1, mgI_4, mgI_5, mgI_6, mgI_8, mgI_9, mgI_10, mgI_11, mgI_15, mgI_22, mpI_1, mpI_4, mpI_5, mpI_6, mpI_8, mpI_9, mpI_10, mpI_11, mpI_15, mpI_22, mlI_0 hA, mlI_3 hA, mlI_12 hA, mlI_13 hA, mlI_14 hA, mlI_16 hA, mlI_17 hA, mlI_18 hA, mlI_19 hA, mlI_20 hA, mlI_21 hA, msI_0 hA, msI_3 hA, msI_12 hA, msI_13 hA, msI_14 hA, msI_16 hA, msI_17 hA, msI_18 hA, msI_19 hA, msI_20 hA, msI_21 hA, mlZ_2 hA, mlZ_7 hA, msZ_2 hA, msZ_7 hA, kI_some, kL_some, kR_some, kV_none, ne_eq, not_true_eq_false, not_false_eq_true, true_implies, false_implies, implies_true, true_and, and_true, ab_z01, or_true, true_or, reduceCtorEq, Option.some.injEq, Int.reduceEq, Int.reduceNe, Int.reduceLT, Int.reduceLE, Int.reduceNeg, Int.reduceAdd, Int.reduceSub, Int.reduceMul, Nat.reduceEqDiff, Nat.reduceAdd, Nat.reduceMul, Int.reduceToNat, ↓reduceIte] <;> rw [e0] at z
      · refine mc_goes hA (by rw [e0]; exact hw.L) hf hF (fun sc2 ar2 hE2 hF2 => ?_)
        rw [e0] at hF2
        have e22 : ar2 20 = ar 20 := (hE2.2 20 (by decide)).trans e20
        simp only [mCV, kI_some, kL_some, kR_some, kV_none, vu_app, mgR_0, mgR_3, mgR_12, mgR_13, mgR_14, mgR_16, mgR_17, mgR_18, mgR_19, mgR_20, mgR_21, mgR_2, mgR_7, mgI_1, mgI_4, mgI_5, mgI_6, mgI_8, mgI_9, mgI_10, mgI_11, mgI_15, mgI_22, mpI_1, mpI_4, mpI_5, mpI_6, mpI_8, mpI_9, mpI_10, mpI_11, mpI_15, mpI_22, mlI_0 hA, mlI_3 hA, mlI_12 hA, mlI_13 hA, mlI_14 hA, mlI_16 hA, mlI_17 hA, mlI_18 hA, mlI_19 hA, mlI_20 hA, mlI_21 hA, msI_0 hA, msI_3 hA, msI_12 hA, msI_13 hA, msI_14 hA, msI_16 hA, msI_17 hA, msI_18 hA, msI_19 hA, msI_20 hA, msI_21 hA, mlZ_2 hA, mlZ_7 hA, msZ_2 hA, msZ_7 hA, kI_some, kL_some, kR_some, kV_none, ne_eq, not_true_eq_false, not_false_eq_true, true_implies, false_implies, implies_true, true_and, and_true, ab_z01, or_true, true_or, reduceCtorEq, Option.some.injEq, Int.reduceEq, Int.reduceNe, Int.reduceLT, Int.reduceLE, Int.reduceNeg, Int.reduceAdd, Int.reduceSub, Int.reduceMul, Nat.reduceEqDiff, Nat.reduceAdd, Nat.reduceMul, Int.reduceToNat, ↓reduceIte, e22, Int.toNat_natCast, q1]
        repeat (first | refine And.intro (by omega) ?_ | refine And.intro (i3 (by omega) (by omega)) ?_)
        rw [show (c : Int) % 4 = ((c % 4 : Nat) : Int) by omega]
        refine ih (i + 1) ((c % 4 : Nat) : Int) (c / 4) _ sc2 ar2 (hE.tr hE2) hF2 (dev_V hw.L hf) htc (fun j hj => ?_) (by omega) (fun a => k1 ⟨z, a⟩) (fun a => k0 (fun b => a b.2))
        have := hl (j + 1) (by omega)
        rw [show i + 1 + j = i + (j + 1) by omega]
        exact this
      · exact k0 (fun b => z b.1) _ _ hE
  refine Vm.intro rfl (Nat.le_of_ble_eq_true rfl) (fun _ => B_X10_arrives_0 ?_)
  simp only [mCV]
  have hlo := hw.2.2.2.2 k hk
  refine mc_takesWord hA (by omega) hlo (fun sc1 ar1 hE1 hF1 => ?_)
  simp only [kI_some, kL_some, kR_some, kV_none, ne_eq, not_true_eq_false, not_false_eq_true, true_implies, false_implies, implies_true, true_and, and_true, ab_z01, or_true, true_or, reduceCtorEq, Option.some.injEq, Int.reduceEq, Int.reduceNe, Int.reduceLT, Int.reduceLE, Int.reduceNeg, Int.reduceAdd, Int.reduceSub, Int.reduceMul, Nat.reduceEqDiff, Nat.reduceAdd, Nat.reduceMul, Int.reduceToNat, ↓reduceIte]
  exact key l 0 t 0 _ sc1 ar1 hE1 hF1 (word_V hlo) ht (fun j hj => by rw [Nat.zero_add]; exact hl j hj) (by omega) k1 k0
abbrev RdS : List Nat := [14, 15, 16, 20]
abbrev RS : List Nat := [14, 15, 16, 20, 21, 22]
theorem FS_RdS : ∀ j ∈ FS, j ∈ RdS := by decide
theorem RdS_RS : ∀ j ∈ RdS, j ∈ RS := by decide
theorem DS_RS : ∀ j ∈ DS, j ∈ RS := by decide
theorem cd_400 {w : Nat → Int} {n : Nat} {D : Nat → Nat} (h : isD w 100 n D) {i : Nat} (hi : i < 4 * n) : cdD D i < 400 := by
  have := (h.1 (i / 4) (by omega)).2
  unfold cdD
  omega
set_option maxRecDepth 100000 in
set_option maxHeartbeats 4000000 in
theorem mc_isThird {d : Nat} {h : AbH} {m : Nat} {ad : Nat → Nat} {sc : Nat → Int} {ar : Nat → Nat → Int} {K : Option AbV → AbH → Prop} (hA : mA ad) {k e g n i j : Nat} {t : Int} {D : Nat → Nat} (hw : wV (ar 0)) (hk : k < no (ar 0)) (he : e < no (ar 0)) (ht : tg t) (hg : g ≤ 3) (hn : n ≤ 33) (hD : isD (ar 0) 100 n D) (h21 : ∀ i, i < n → ar 21 i = (D i : Int)) (hi : i < 4 * n) (hj : j < 4 * n) (s0 : ar 20 0 = (cdD D i : Int)) (s1 : ar 20 1 = (cdD D j : Int)) (k1 : ∀ q, q < 4 * n → j / 4 * 4 ≤ q → arrM (ar 0) (wend (ar 0) e) (g : Int) t 0 (word (ar 0) k) [cdD D i, cdD D j, cdD D q] → (∀ q', q' < q → j / 4 * 4 ≤ q' → ¬ arrM (ar 0) (wend (ar 0) e) (g : Int) t 0 (word (ar 0) k) [cdD D i, cdD D j, cdD D q']) → ∀ sc' ar', mE RdS sc ar sc' ar' → ar' 20 0 = (cdD D i : Int) → ar' 20 1 = (cdD D j : Int) → ar' 20 2 = (cdD D q : Int) → K (some (vI 1)) (mH h m ad sc' ar')) (k0 : (∀ q, q < 4 * n → j / 4 * 4 ≤ q → ¬ arrM (ar 0) (wend (ar 0) e) (g : Int) t 0 (word (ar 0) k) [cdD D i, cdD D j, cdD D q]) → ∀ sc' ar', mE RdS sc ar sc' ar' → ar' 20 0 = (cdD D i : Int) → K (some (vI 0)) (mH h m ad sc' ar')) : Vm (d + 6) m_X10_isThird [vR (some m), vI (k : Int), vI t, vI (e : Int), vI (g : Int), vI (j : Int), vI ((4 * n : Nat) : Int)] (mH h m ad sc ar) K := by
  have hci := cd_400 hD hi
  have hcj := cd_400 hD hj
  refine Vm.intro rfl (Nat.le_of_ble_eq_true rfl) (fun _ => B_X10_isThird_0 ?_)
  simp only [mCV, kI_some, kL_some, kR_some, kV_none, vu_app, mgR_0, mgR_3, mgR_12, mgR_13, mgR_14, mgR_16, mgR_17, mgR_18, mgR_19, mgR_20, mgR_21, mgR_2, mgR_7, mgI_1, mgI_4, mgI_5, mgI_6, mgI_8, mgI_9, mgI_10, mgI_11, mgI_15, mgI_22, mpI_1, mpI_4, mpI_5, mpI_6, mpI_8, mpI_9, mpI_10, mpI_11, mpI_15, mpI_22, mlI_0 hA, mlI_3 hA, mlI_12 hA, mlI_13 hA, mlI_14 hA, mlI_16 hA, mlI_17 hA, mlI_18 hA, mlI_19 hA, mlI_20 hA, mlI_21 hA, msI_0 hA, msI_3 hA, msI_12 hA, msI_13 hA, msI_14 hA, msI_16 hA, msI_17 hA, msI_18 hA, msI_19 hA, msI_20 hA, msI_21 hA, mlZ_2 hA, mlZ_7 hA, msZ_2 hA, msZ_7 hA, kI_some, kL_some, kR_some, kV_none, ne_eq, not_true_eq_false, not_false_eq_true, true_implies, false_implies, implies_true, true_and, and_true, ab_z01, or_true, true_or, reduceCtorEq, Option.some.injEq, Int.reduceEq, Int.reduceNe, Int.reduceLT, Int.reduceLE, Int.reduceNeg, Int.reduceAdd, Int.reduceSub, Int.reduceMul, Nat.reduceEqDiff, Nat.reduceAdd, Nat.reduceMul, Int.reduceToNat, ↓reduceIte, s0, s1]
  repeat (first | refine And.intro (by omega) ?_ | refine And.intro (i3 (by omega) (by omega)) ?_)
  rw [show (cdD D i : Int) % 4 = ((cdD D i % 4 : Nat) : Int) by omega, show (cdD D j : Int) % 4 = ((cdD D j % 4 : Nat) : Int) by omega, show (cdD D j : Int) / 4 = ((cdD D j / 4 : Nat) : Int) by omega]
  refine mc_isMet hA ⟨by omega, by omega⟩ ⟨by omega, by omega⟩ hw.met (fun z => ?_) (fun z => ?_) <;> simp only [kI_some, kL_some, kR_some, kV_none, ne_eq, not_true_eq_false, not_false_eq_true, true_implies, false_implies, implies_true, true_and, and_true, ab_z01, or_true, true_or, reduceCtorEq, Option.some.injEq, Int.reduceEq, Int.reduceNe, Int.reduceLT, Int.reduceLE, Int.reduceNeg, Int.reduceAdd, Int.reduceSub, Int.reduceMul, Nat.reduceEqDiff, Nat.reduceAdd, Nat.reduceMul, Int.reduceToNat, ↓reduceIte]
  · repeat (first | refine And.intro (by omega) ?_ | refine And.intro (i3 (by omega) (by omega)) ?_)
    rw [show ((j : Int) / 4) * 4 + (g : Int) = ((4 * (j / 4) + g + 4 * 0 : Nat) : Int) by omega]
    refine lp_up (P := fun r => ∀ sc' ar', mE RdS sc ar sc' ar' → ar' 20 0 = (cdD D i : Int) → ar' 20 1 = (cdD D j : Int) → (∀ q', q' < 4 * (j / 4 + r) → j / 4 * 4 ≤ q' → ¬ arrM (ar 0) (wend (ar 0) e) (g : Int) t 0 (word (ar 0) k) [cdD D i, cdD D j, cdD D q']) → Vx (d + 6) m_X10_isThird 0 0 44 [some (vR (some m)), some (vI (k : Int)), some (vI t), some (vI (e : Int)), some (vI (g : Int)), some (vI (j : Int)), some (vI ((4 * n : Nat) : Int)), some (vI ((4 * (j / 4) + g + 4 * r : Nat) : Int))] [] (mH h m ad sc' ar') K) (n := n - j / 4) ?_ ?_ 0 (by omega) sc ar mE.rf s0 s1 (fun q' h1 h2 => absurd h1 (by omega))
    · intro sc' ar' hE z0 z1 hN
      exact B_X10_isThird_44 ⟨fun _ => k0 (fun q h1 h2 => hN q (by omega) h2) sc' ar' hE z0, fun c => absurd (by omega) c⟩
    · intro r hr ih sc' ar' hE z0 z1 hN
      have e0 : ar' 0 = ar 0 := hE.2 0 (by decide)
      have e21 : ar' 21 = ar 21 := hE.2 21 (by decide)
      refine B_X10_isThird_44 ⟨fun c => absurd c (by omega), fun _ => ?_⟩
      simp only [mCV]
      obtain ⟨q, hq⟩ : ∃ q, q = 4 * (j / 4) + g + 4 * r := ⟨_, rfl⟩
      rw [← hq]
      have hq4 : q < 4 * n := by omega
      have hcq := cd_400 hD hq4
      refine mc_steps hA (i := 2) (D := D) (by decide) (by omega) (by rw [e21]; exact h21 _ (by omega)) ((hD.1 (q / 4) (by omega)).2) ?_
      simp only [mCV, kI_some, kL_some, kR_some, kV_none, vu_app, mgR_0, mgR_3, mgR_12, mgR_13, mgR_14, mgR_16, mgR_17, mgR_18, mgR_19, mgR_20, mgR_21, mgR_2, mgR_7, mgI_1, mgI_4, mgI_5, mgI_6, mgI_8, mgI_9, mgI_10, mgI_11, mgI_15, mgI_22, mpI_1, mpI_4, mpI_5, mpI_6, mpI_8, mpI_9, mpI_10, mpI_11, mpI_15, mpI_22, mlI_0 hA, mlI_3 hA, mlI_12 hA, mlI_13 hA, mlI_14 hA, mlI_16 hA, mlI_17 hA, mlI_18 hA, mlI_19 hA, mlI_20 hA, mlI_21 hA, msI_0 hA, msI_3 hA, msI_12 hA, msI_13 hA, msI_14 hA, msI_16 hA, msI_17 hA, msI_18 hA, msI_19 hA, msI_20 hA, msI_21 hA, mlZ_2 hA, mlZ_7 hA, msZ_2 hA, msZ_7 hA, kI_some, kL_some, kR_some, kV_none, ne_eq, not_true_eq_false, not_false_eq_true, true_implies, false_implies, implies_true, true_and, and_true, ab_z01, or_true, true_or, reduceCtorEq, Option.some.injEq, Int.reduceEq, Int.reduceNe, Int.reduceLT, Int.reduceLE, Int.reduceNeg, Int.reduceAdd, Int.reduceSub, Int.reduceMul, Nat.reduceEqDiff, Nat.reduceAdd, Nat.reduceMul, Int.reduceToNat, ↓reduceIte]
      refine mc_arrives hA (l := [cdD D i, cdD D j, cdD D q]) (n := 3) (by rw [vu_ne (by decide), e0]; exact hw) (by rw [vu_ne (by decide), e0]; exact hk) (by rw [vu_ne (by decide), e0]; exact he) ht rfl (by decide) ?_ (fun a sc2 ar2 hE2 => ?_) (fun a sc2 ar2 hE2 => ?_)
      · intro x hx
        rw [vu_same]
        have hx : x < 3 := hx
        have : x = 0 ∨ x = 1 ∨ x = 2 := by omega
        rcases this with rfl | rfl | rfl
        · rw [vu_ne (by decide), z0]; exact ⟨rfl, hci⟩
        · rw [vu_ne (by decide), z1]; exact ⟨rfl, hcj⟩
        · rw [vu_same]; exact ⟨rfl, hcq⟩
      · simp only [kI_some, kL_some, kR_some, kV_none, ne_eq, not_true_eq_false, not_false_eq_true, true_implies, false_implies, implies_true, true_and, and_true, ab_z01, or_true, true_or, reduceCtorEq, Option.some.injEq, Int.reduceEq, Int.reduceNe, Int.reduceLT, Int.reduceLE, Int.reduceNeg, Int.reduceAdd, Int.reduceSub, Int.reduceMul, Nat.reduceEqDiff, Nat.reduceAdd, Nat.reduceMul, Int.reduceToNat, ↓reduceIte]
        rw [vu_ne (by decide), e0] at a
        have e20 := hE2.2 20 (by decide)
        rw [vu_same] at e20
        refine k1 q hq4 (by omega) a (fun q' h1 h2 => ?_) sc2 ar2 ((hE.ar (by decide)).tr (hE2.mono FS_RdS)) (by rw [e20, vu_ne (by decide)]; exact z0) (by rw [e20, vu_ne (by decide)]; exact z1) (by rw [e20, vu_same])
        by_cases c : q' < 4 * (j / 4 + r)
        · exact hN q' c h2
        · intro b
          have b1 : ((cdD D q' % 4 : Nat) : Int) = (g : Int) := b.2.2.2.1
          rw [cd_mod] at b1
          omega
      · simp only [kI_some, kL_some, kR_some, kV_none, ne_eq, not_true_eq_false, not_false_eq_true, true_implies, false_implies, implies_true, true_and, and_true, ab_z01, or_true, true_or, reduceCtorEq, Option.some.injEq, Int.reduceEq, Int.reduceNe, Int.reduceLT, Int.reduceLE, Int.reduceNeg, Int.reduceAdd, Int.reduceSub, Int.reduceMul, Nat.reduceEqDiff, Nat.reduceAdd, Nat.reduceMul, Int.reduceToNat, ↓reduceIte]
        rw [vu_ne (by decide), e0] at a
        have e20 := hE2.2 20 (by decide)
        rw [vu_same] at e20
        refine ⟨i3 (by omega) (by omega), ?_⟩
        rw [show ((q : Nat) : Int) + 4 = ((4 * (j / 4) + g + 4 * (r + 1) : Nat) : Int) by omega]
        refine ih sc2 ar2 ((hE.ar (by decide)).tr (hE2.mono FS_RdS)) (by rw [e20, vu_ne (by decide)]; exact z0) (by rw [e20, vu_ne (by decide)]; exact z1) (fun q' h1 h2 => ?_)
        by_cases c : q' < 4 * (j / 4 + r)
        · exact hN q' c h2
        · by_cases c2 : q' = q
          · rw [c2]; exact a
          · intro b
            have b1 : ((cdD D q' % 4 : Nat) : Int) = (g : Int) := b.2.2.2.1
            rw [cd_mod] at b1
            omega
  · refine k0 (fun q h1 h2 b => z ?_) sc ar mE.rf s0
    exact b.2.1
