theorem fit_out {w : Nat → Int} {k : Nat} : ∀ d, 99 < d → fitW w k d = false := fun _ h => fit_100 h
set_option maxRecDepth 100000 in
set_option maxHeartbeats 4000000 in
theorem mc_windows {d : Nat} {h : AbH} {m : Nat} {ad : Nat → Nat} {sc : Nat → Int} {ar : Nat → Nat → Int} {K : Option AbV → AbH → Prop} (hA : mA ad) {k : Nat} (hw : wV (ar 0)) (hk : k < no (ar 0)) (kk : ∀ sc' ar', mE FS sc ar sc' ar' → K (some (vI (sN (fitW (ar 0) k) 100 : Int))) (mH h m ad sc' ar')) : Vm (d + 8) m_X10_windows [vR (some m), vI (k : Int)] (mH h m ad sc ar) K := by
  have hle := sN_le (fitW (ar 0) k) 100
  refine Vm.intro rfl (Nat.le_of_ble_eq_true rfl) (fun _ => B_X10_windows_0 ?_)
  refine lp_up (P := fun i => ∀ sc' ar', mE FS sc ar sc' ar' → Vx (d + 8) m_X10_windows 0 0 2 [some (vR (some m)), some (vI (k : Int)), some (vI (i : Int))] [] (mH h m ad sc' ar') K) (n := sN (fitW (ar 0) k) 100) ?_ ?_ 0 (by omega) sc ar mE.rf
  · intro sc' ar' hE
    have e0 : ar' 0 = ar 0 := hE.2 0 (by decide)
    refine B_X10_windows_2 ?_
    simp only [mCV]
    refine mc_windowOf hA (b := true) (by rw [e0]; exact hw) (by rw [e0]; exact hk) (by omega) (fun sc2 ar2 hE2 => ?_)
    simp only [kI_some, kL_some, kR_some, kV_none, ne_eq, not_true_eq_false, not_false_eq_true, true_implies, false_implies, implies_true, true_and, and_true, ab_z01, or_true, true_or, reduceCtorEq, Option.some.injEq, Int.reduceEq, Int.reduceNe, Int.reduceLT, Int.reduceLE, Int.reduceNeg, Int.reduceAdd, Int.reduceSub, Int.reduceMul, Nat.reduceEqDiff, Nat.reduceAdd, Nat.reduceMul, Int.reduceToNat, ↓reduceIte]
    rw [e0]
    exact ⟨fun _ => kk sc2 ar2 (hE.tr hE2), fun c => absurd ((winB_ne fit_out).mpr (Nat.le_refl _)) c⟩
  · intro i hi ih sc' ar' hE
    have e0 : ar' 0 = ar 0 := hE.2 0 (by decide)
    refine B_X10_windows_2 ?_
    simp only [mCV]
    refine mc_windowOf hA (b := true) (by rw [e0]; exact hw) (by rw [e0]; exact hk) (by omega) (fun sc2 ar2 hE2 => ?_)
    simp only [kI_some, kL_some, kR_some, kV_none, ne_eq, not_true_eq_false, not_false_eq_true, true_implies, false_implies, implies_true, true_and, and_true, ab_z01, or_true, true_or, reduceCtorEq, Option.some.injEq, Int.reduceEq, Int.reduceNe, Int.reduceLT, Int.reduceLE, Int.reduceNeg, Int.reduceAdd, Int.reduceSub, Int.reduceMul, Nat.reduceEqDiff, Nat.reduceAdd, Nat.reduceMul, Int.reduceToNat, ↓reduceIte]
    rw [e0]
    refine ⟨fun c => absurd ((winB_ne fit_out).mp c) (by omega), fun _ => ⟨i3 (by omega) (by omega), ih sc2 ar2 (hE.tr hE2)⟩⟩
set_option maxRecDepth 100000 in
set_option maxHeartbeats 4000000 in
theorem mc_firstOf {d : Nat} {h : AbH} {m : Nat} {ad : Nat → Nat} {sc : Nat → Int} {ar : Nat → Nat → Int} {K : Option AbV → AbH → Prop} (hA : mA ad) {k : Nat} (hw : wV (ar 0)) (hk : k < no (ar 0)) (kk : ∀ sc' ar', mE FS sc ar sc' ar' → K (some (vI (fsD (ar 0) k))) (mH h m ad sc' ar')) : Vm (d + 8) m_X10_firstOf [vR (some m), vI (k : Int)] (mH h m ad sc ar) K := by
  refine Vm.intro rfl (Nat.le_of_ble_eq_true rfl) (fun _ => B_X10_firstOf_0 ?_)
  simp only [mCV]
  refine mc_windowOf hA (q := 0) (b := true) hw hk (by decide) (fun sc2 ar2 hE2 => ?_)
  simp only [kI_some, kL_some, kR_some, kV_none, ne_eq, not_true_eq_false, not_false_eq_true, true_implies, false_implies, implies_true, true_and, and_true, ab_z01, or_true, true_or, reduceCtorEq, Option.some.injEq, Int.reduceEq, Int.reduceNe, Int.reduceLT, Int.reduceLE, Int.reduceNeg, Int.reduceAdd, Int.reduceSub, Int.reduceMul, Nat.reduceEqDiff, Nat.reduceAdd, Nat.reduceMul, Int.reduceToNat, ↓reduceIte]
  exact kk sc2 ar2 hE2
set_option maxRecDepth 100000 in
set_option maxHeartbeats 4000000 in
theorem mc_lastOf {d : Nat} {h : AbH} {m : Nat} {ad : Nat → Nat} {sc : Nat → Int} {ar : Nat → Nat → Int} {K : Option AbV → AbH → Prop} (hA : mA ad) {k : Nat} (hw : wV (ar 0)) (hk : k < no (ar 0)) (kk : ∀ sc' ar', mE FS sc ar sc' ar' → K (some (vI (lsD (ar 0) k))) (mH h m ad sc' ar')) : Vm (d + 7) m_X10_lastOf [vR (some m), vI (k : Int)] (mH h m ad sc ar) K := by
  refine Vm.intro rfl (Nat.le_of_ble_eq_true rfl) (fun _ => B_X10_lastOf_0 ?_)
  -- i dates are gone: 99 - i is asked
  refine lp_up (P := fun i => ∀ sc' ar', mE FS sc ar sc' ar' → (∀ c, 100 ≤ c + i → c < 100 → ¬ fitW (ar 0) k c = true) → Vx (d + 7) m_X10_lastOf 0 0 3 [some (vR (some m)), some (vI (k : Int)), some (vI (99 - (i : Int)))] [] (mH h m ad sc' ar') K) (n := 100) ?_ ?_ 0 (by omega) sc ar mE.rf (fun c h1 h2 => absurd h1 (by omega))
  · intro sc' ar' hE hn
    refine B_X10_lastOf_3 ⟨fun _ => ?_, fun c => absurd (by omega) c⟩
    have z := kk sc' ar' hE
    have : lsD (ar 0) k = -1 := lstF_no (fun c hc => hn c (by omega) hc)
    rw [this] at z
    exact z
  · intro i hi ih sc' ar' hE hn
    have e0 : ar' 0 = ar 0 := hE.2 0 (by decide)
    refine B_X10_lastOf_3 ⟨fun c => absurd c (by omega), fun _ => ?_⟩
    simp only [mCV]
    rw [show (99 - (i : Int)) = ((99 - i : Nat) : Int) by omega]
    refine mc_fits hA (by rw [e0]; exact hw) (by rw [e0]; exact hk) (by omega) (fun sc2 ar2 hE2 => ?_)
    simp only [kI_some, kL_some, kR_some, kV_none, ne_eq, not_true_eq_false, not_false_eq_true, true_implies, false_implies, implies_true, true_and, and_true, ab_z01, or_true, true_or, reduceCtorEq, Option.some.injEq, Int.reduceEq, Int.reduceNe, Int.reduceLT, Int.reduceLE, Int.reduceNeg, Int.reduceAdd, Int.reduceSub, Int.reduceMul, Nat.reduceEqDiff, Nat.reduceAdd, Nat.reduceMul, Int.reduceToNat, ↓reduceIte]
    rw [e0]
    cases hF : fitW (ar 0) k (99 - i) with
    | false =>
      simp only [b2i, kI_some, kL_some, kR_some, kV_none, ne_eq, not_true_eq_false, not_false_eq_true, true_implies, false_implies, implies_true, true_and, and_true, ab_z01, or_true, true_or, reduceCtorEq, Option.some.injEq, Int.reduceEq, Int.reduceNe, Int.reduceLT, Int.reduceLE, Int.reduceNeg, Int.reduceAdd, Int.reduceSub, Int.reduceMul, Nat.reduceEqDiff, Nat.reduceAdd, Nat.reduceMul, Int.reduceToNat, ↓reduceIte, Bool.false_eq_true]
      refine ⟨i3 (by omega) (by omega), ?_⟩
      rw [show ((99 - i : Nat) : Int) + -1 = 99 - ((i + 1 : Nat) : Int) by omega]
      refine ih sc2 ar2 (hE.tr hE2) (fun c h1 h2 => ?_)
      by_cases e : c = 99 - i
      · rw [e, hF]; decide
      · exact hn c (by omega) h2
    | true =>
      simp only [b2i, kI_some, kL_some, kR_some, kV_none, ne_eq, not_true_eq_false, not_false_eq_true, true_implies, false_implies, implies_true, true_and, and_true, ab_z01, or_true, true_or, reduceCtorEq, Option.some.injEq, Int.reduceEq, Int.reduceNe, Int.reduceLT, Int.reduceLE, Int.reduceNeg, Int.reduceAdd, Int.reduceSub, Int.reduceMul, Nat.reduceEqDiff, Nat.reduceAdd, Nat.reduceMul, Int.reduceToNat, ↓reduceIte]
      have z := kk sc2 ar2 (hE.tr hE2)
      have : lsD (ar 0) k = ((99 - i : Nat) : Int) := lstF_at (by omega) hF (fun c h1 h2 => hn c (by omega) h2)
      rw [this] at z
      exact z
set_option maxRecDepth 100000 in
set_option maxHeartbeats 4000000 in
theorem mc_kind {d : Nat} {h : AbH} {m : Nat} {ad : Nat → Nat} {sc : Nat → Int} {ar : Nat → Nat → Int} {K : Option AbV → AbH → Prop} (hA : mA ad) {k : Nat} (hw : wV (ar 0)) (hk : k < no (ar 0)) (kk : ∀ sc' ar', mE FS sc ar sc' ar' → K (some (vI (kndF (fitW (ar 0) k)))) (mH h m ad sc' ar')) : Vm (d + 9) m_X10_kind [vR (some m), vI (k : Int)] (mH h m ad sc ar) K := by
  rw [kndF_eq fit_out] at kk
  refine Vm.intro rfl (Nat.le_of_ble_eq_true rfl) (fun _ => B_X10_kind_0 ?_)
  simp only [mCV]
  refine mc_firstOf hA hw hk (fun sc1 ar1 hE1 => ?_)
  have e1 : ar1 0 = ar 0 := hE1.2 0 (by decide)
  simp only [mCV, kI_some, kL_some, kR_some, kV_none, vu_app, mgR_0, mgR_3, mgR_12, mgR_13, mgR_14, mgR_16, mgR_17, mgR_18, mgR_19, mgR_20, mgR_21, mgR_2, mgR_7, mgI_1, mgI_4, mgI_5, mgI_6, mgI_8, mgI_9, mgI_10, mgI_11, mgI_15, mgI_22, mpI_1, mpI_4, mpI_5, mpI_6, mpI_8, mpI_9, mpI_10, mpI_11, mpI_15, mpI_22, mlI_0 hA, mlI_3 hA, mlI_12 hA, mlI_13 hA, mlI_14 hA, mlI_16 hA, mlI_17 hA, mlI_18 hA, mlI_19 hA, mlI_20 hA, mlI_21 hA, msI_0 hA, msI_3 hA, msI_12 hA, msI_13 hA, msI_14 hA, msI_16 hA, msI_17 hA, msI_18 hA, msI_19 hA, msI_20 hA, msI_21 hA, mlZ_2 hA, mlZ_7 hA, msZ_2 hA, msZ_7 hA, kI_some, kL_some, kR_some, kV_none, ne_eq, not_true_eq_false, not_false_eq_true, true_implies, false_implies, implies_true, true_and, and_true, ab_z01, or_true, true_or, reduceCtorEq, Option.some.injEq, Int.reduceEq, Int.reduceNe, Int.reduceLT, Int.reduceLE, Int.reduceNeg, Int.reduceAdd, Int.reduceSub, Int.reduceMul, Nat.reduceEqDiff, Nat.reduceAdd, Nat.reduceMul, Int.reduceToNat, ↓reduceIte]
  refine ⟨fun c => ?_, fun c => ?_⟩
  · rw [if_neg (show ¬ winB (fitW (ar 0) k) 0 = -1 from c)] at kk
    refine mc_windowOf hA (q := 1) (b := true) (by rw [e1]; exact hw) (by rw [e1]; exact hk) (by decide) (fun sc2 ar2 hE2 => ?_)
    simp only [kI_some, kL_some, kR_some, kV_none, ne_eq, not_true_eq_false, not_false_eq_true, true_implies, false_implies, implies_true, true_and, and_true, ab_z01, or_true, true_or, reduceCtorEq, Option.some.injEq, Int.reduceEq, Int.reduceNe, Int.reduceLT, Int.reduceLE, Int.reduceNeg, Int.reduceAdd, Int.reduceSub, Int.reduceMul, Nat.reduceEqDiff, Nat.reduceAdd, Nat.reduceMul, Int.reduceToNat, ↓reduceIte]
    rw [e1]
    refine ⟨fun c1 => ?_, fun c1 => ?_⟩
    · rw [if_neg (show ¬ winB (fitW (ar 0) k) 1 = -1 from c1)] at kk
      exact kk sc2 ar2 (hE1.tr hE2)
    · rw [if_pos (show winB (fitW (ar 0) k) 1 = -1 by simpa [winR] using c1)] at kk
      exact kk sc2 ar2 (hE1.tr hE2)
  · rw [if_pos (show winB (fitW (ar 0) k) 0 = -1 by simpa [fsD] using c)] at kk
    exact kk sc1 ar1 hE1
/-- firsts and lasts of the first n loans stand -/
def mFL (ar : Nat → Nat → Int) (w : Nat → Int) (n : Nat) : Prop := ∀ k, k < n → ar 17 k = fsD w k ∧ ar 18 k = lsD w k
set_option maxRecDepth 100000 in
set_option maxHeartbeats 4000000 in
theorem mc_isOlder {d : Nat} {h : AbH} {m : Nat} {ad : Nat → Nat} {sc : Nat → Int} {ar : Nat → Nat → Int} {K : Option AbV → AbH → Prop} (hA : mA ad) {i j : Nat} (hw : wV (ar 0)) (hi : i < no (ar 0)) (hj : j < no (ar 0)) (hf : mFL ar (ar 0) (no (ar 0))) (kk : K (some (vI (b2i (oldB (ar 0) i j)))) (mH h m ad sc ar)) : Vm (d + 2) m_X10_isOlder [vR (some m), vI (i : Int), vI (j : Int)] (mH h m ad sc ar) K := by
  obtain ⟨n1, n2⟩ := hw.now
  have bad : ¬ oldB (ar 0) i j = true → K (some (vI 0)) (mH h m ad sc ar) := fun q => by rwa [b2i_f q] at kk
  have good : oldB (ar 0) i j = true → K (some (vI 1)) (mH h m ad sc ar) := fun q => by rwa [b2i_t q] at kk
  have e1 : (130 + 22 * (i : Int) + 1).toNat = 130 + 22 * i + 1 := by omega
  have e2 : (130 + 22 * (j : Int) + 1).toNat = 130 + 22 * j + 1 := by omega
  have z1 : ar 0 (130 + 22 * i + 1) = lo (ar 0) i 1 := rfl
  have z2 : ar 0 (130 + 22 * j + 1) = lo (ar 0) j 1 := rfl
  refine Vm.intro rfl (Nat.le_of_ble_eq_true rfl) (fun _ => B_X10_isOlder_0 ?_)
  simp only [mCV, kI_some, kL_some, kR_some, kV_none, vu_app, mgR_0, mgR_3, mgR_12, mgR_13, mgR_14, mgR_16, mgR_17, mgR_18, mgR_19, mgR_20, mgR_21, mgR_2, mgR_7, mgI_1, mgI_4, mgI_5, mgI_6, mgI_8, mgI_9, mgI_10, mgI_11, mgI_15, mgI_22, mpI_1, mpI_4, mpI_5, mpI_6, mpI_8, mpI_9, mpI_10, mpI_11, mpI_15, mpI_22, mlI_0 hA, mlI_3 hA, mlI_12 hA, mlI_13 hA, mlI_14 hA, mlI_16 hA, mlI_17 hA, mlI_18 hA, mlI_19 hA, mlI_20 hA, mlI_21 hA, msI_0 hA, msI_3 hA, msI_12 hA, msI_13 hA, msI_14 hA, msI_16 hA, msI_17 hA, msI_18 hA, msI_19 hA, msI_20 hA, msI_21 hA, mlZ_2 hA, mlZ_7 hA, msZ_2 hA, msZ_7 hA, kI_some, kL_some, kR_some, kV_none, ne_eq, not_true_eq_false, not_false_eq_true, true_implies, false_implies, implies_true, true_and, and_true, ab_z01, or_true, true_or, reduceCtorEq, Option.some.injEq, Int.reduceEq, Int.reduceNe, Int.reduceLT, Int.reduceLE, Int.reduceNeg, Int.reduceAdd, Int.reduceSub, Int.reduceMul, Nat.reduceEqDiff, Nat.reduceAdd, Nat.reduceMul, Int.reduceToNat, ↓reduceIte]
  refine mc_loanAt (by omega) ?_
  simp only [mCV, kI_some, kL_some, kR_some, kV_none, vu_app, mgR_0, mgR_3, mgR_12, mgR_13, mgR_14, mgR_16, mgR_17, mgR_18, mgR_19, mgR_20, mgR_21, mgR_2, mgR_7, mgI_1, mgI_4, mgI_5, mgI_6, mgI_8, mgI_9, mgI_10, mgI_11, mgI_15, mgI_22, mpI_1, mpI_4, mpI_5, mpI_6, mpI_8, mpI_9, mpI_10, mpI_11, mpI_15, mpI_22, mlI_0 hA, mlI_3 hA, mlI_12 hA, mlI_13 hA, mlI_14 hA, mlI_16 hA, mlI_17 hA, mlI_18 hA, mlI_19 hA, mlI_20 hA, mlI_21 hA, msI_0 hA, msI_3 hA, msI_12 hA, msI_13 hA, msI_14 hA, msI_16 hA, msI_17 hA, msI_18 hA, msI_19 hA, msI_20 hA, msI_21 hA, mlZ_2 hA, mlZ_7 hA, msZ_2 hA, msZ_7 hA, kI_some, kL_some, kR_some, kV_none, ne_eq, not_true_eq_false, not_false_eq_true, true_implies, false_implies, implies_true, true_and, and_true, ab_z01, or_true, true_or, reduceCtorEq, Option.some.injEq, Int.reduceEq, Int.reduceNe, Int.reduceLT, Int.reduceLE, Int.reduceNeg, Int.reduceAdd, Int.reduceSub, Int.reduceMul, Nat.reduceEqDiff, Nat.reduceAdd, Nat.reduceMul, Int.reduceToNat, ↓reduceIte, e1]
  refine ⟨i3 (by omega) (by omega), by omega, by omega, mc_loanAt (by omega) ?_⟩
  simp only [mCV, kI_some, kL_some, kR_some, kV_none, vu_app, mgR_0, mgR_3, mgR_12, mgR_13, mgR_14, mgR_16, mgR_17, mgR_18, mgR_19, mgR_20, mgR_21, mgR_2, mgR_7, mgI_1, mgI_4, mgI_5, mgI_6, mgI_8, mgI_9, mgI_10, mgI_11, mgI_15, mgI_22, mpI_1, mpI_4, mpI_5, mpI_6, mpI_8, mpI_9, mpI_10, mpI_11, mpI_15, mpI_22, mlI_0 hA, mlI_3 hA, mlI_12 hA, mlI_13 hA, mlI_14 hA, mlI_16 hA, mlI_17 hA, mlI_18 hA, mlI_19 hA, mlI_20 hA, mlI_21 hA, msI_0 hA, msI_3 hA, msI_12 hA, msI_13 hA, msI_14 hA, msI_16 hA, msI_17 hA, msI_18 hA, msI_19 hA, msI_20 hA, msI_21 hA, mlZ_2 hA, mlZ_7 hA, msZ_2 hA, msZ_7 hA, kI_some, kL_some, kR_some, kV_none, ne_eq, not_true_eq_false, not_false_eq_true, true_implies, false_implies, implies_true, true_and, and_true, ab_z01, or_true, true_or, reduceCtorEq, Option.some.injEq, Int.reduceEq, Int.reduceNe, Int.reduceLT, Int.reduceLE, Int.reduceNeg, Int.reduceAdd, Int.reduceSub, Int.reduceMul, Nat.reduceEqDiff, Nat.reduceAdd, Nat.reduceMul, Int.reduceToNat, ↓reduceIte, e2, z1, z2, Int.toNat_natCast, (hf i hi).1, (hf i hi).2, (hf j hj).1]
  refine ⟨i3 (by omega) (by omega), by omega, by omega, fun c => bad (fun q => c (oldB_iff.mp q).1), fun c => ⟨by omega, by omega, fun c1 => bad (fun q => (oldB_iff.mp q).2.1 c1), fun c1 => ⟨by omega, by omega, fun c2 => bad (fun q => (oldB_iff.mp q).2.2.1 c2), fun c2 => ⟨by omega, by omega, by omega, by omega, fun c3 => bad (fun q => by have := (oldB_iff.mp q).2.2.2; omega), fun c3 => good (oldB_iff.mpr ⟨by simpa using c, c1, c2, by omega⟩)⟩⟩⟩⟩
abbrev LyS : List Nat := [14, 15, 16, 17, 18, 19]
theorem FS_LyS : ∀ j ∈ FS, j ∈ LyS := by decide
set_option maxRecDepth 100000 in
set_option maxHeartbeats 4000000 in
theorem mc_finds {d : Nat} {h : AbH} {m : Nat} {ad : Nat → Nat} {sc : Nat → Int} {ar : Nat → Nat → Int} {K : Option AbV → AbH → Prop} (hA : mA ad) (hw : wV (ar 0)) (kk : ∀ sc' ar', mE LyS sc ar sc' ar' → mFL ar' (ar 0) (no (ar 0)) → (∀ k, k < no (ar 0) → ar' 19 k = (lay (ar 0) k : Int)) → K none (mH h m ad sc' ar')) : Vm (d + 9) m_X10_finds [vR (some m)] (mH h m ad sc ar) K := by
  obtain ⟨w, hw0⟩ : ∃ w, w = ar 0 := ⟨_, rfl⟩
  rw [← hw0] at hw kk
  obtain ⟨n1, n2⟩ := hw.now
  refine Vm.intro rfl (Nat.le_of_ble_eq_true rfl) (fun _ => B_X10_finds_0 ?_)
  -- bounds of the layers while they grow
  have key : ∀ sc1 ar1, mE LyS sc ar sc1 ar1 → mFL ar1 w (no w) → (∀ k, k < no w → ar1 19 k = if fsD w k = -1 then 0 else 1) → Vx (d + 9) m_X10_finds 0 0 63 [some (vR (some m)), some (vI 0), none, none] [] (mH h m ad sc1 ar1) K := by
    intro sc1 ar1 hE1 hf1 hl1
    refine lp_up (P := fun r => ∀ sc' ar', mE LyS sc ar sc' ar' → mFL ar' w (no w) → (∀ k, k < no w → ar' 19 k ≤ lay w k ∧ 0 ≤ ar' 19 k ∧ (lay w k ≤ r + 1 → ar' 19 k = lay w k)) → Vx (d + 9) m_X10_finds 0 0 63 [some (vR (some m)), some (vI (r : Int)), none, none] [] (mH h m ad sc' ar') K) (n := no w) ?_ ?_ 0 (by omega) sc1 ar1 hE1 hf1 (fun k hk => ?_)
    · intro sc' ar' hE hf hl
      have e0 : ar' 0 = w := (hE.2 0 (by decide)).trans hw0.symm
      refine B_X10_finds_63 ?_
      simp only [mCV, kI_some, kL_some, kR_some, kV_none, vu_app, mgR_0, mgR_3, mgR_12, mgR_13, mgR_14, mgR_16, mgR_17, mgR_18, mgR_19, mgR_20, mgR_21, mgR_2, mgR_7, mgI_1, mgI_4, mgI_5, mgI_6, mgI_8, mgI_9, mgI_10, mgI_11, mgI_15, mgI_22, mpI_1, mpI_4, mpI_5, mpI_6, mpI_8, mpI_9, mpI_10, mpI_11, mpI_15, mpI_22, mlI_0 hA, mlI_3 hA, mlI_12 hA, mlI_13 hA, mlI_14 hA, mlI_16 hA, mlI_17 hA, mlI_18 hA, mlI_19 hA, mlI_20 hA, mlI_21 hA, msI_0 hA, msI_3 hA, msI_12 hA, msI_13 hA, msI_14 hA, msI_16 hA, msI_17 hA, msI_18 hA, msI_19 hA, msI_20 hA, msI_21 hA, mlZ_2 hA, mlZ_7 hA, msZ_2 hA, msZ_7 hA, kI_some, kL_some, kR_some, kV_none, ne_eq, not_true_eq_false, not_false_eq_true, true_implies, false_implies, implies_true, true_and, and_true, ab_z01, or_true, true_or, reduceCtorEq, Option.some.injEq, Int.reduceEq, Int.reduceNe, Int.reduceLT, Int.reduceLE, Int.reduceNeg, Int.reduceAdd, Int.reduceSub, Int.reduceMul, Nat.reduceEqDiff, Nat.reduceAdd, Nat.reduceMul, Int.reduceToNat, ↓reduceIte, e0]
      exact ⟨fun _ => kk sc' ar' hE hf (fun k hk => (hl k hk).2.2 (by have := lay_le hk; omega)), fun c => absurd (by omega) c⟩
    · intro r hr ihr sc' ar' hE hf hl
      have e0 : ar' 0 = w := (hE.2 0 (by decide)).trans hw0.symm
      refine B_X10_finds_63 ?_
      simp only [mCV, kI_some, kL_some, kR_some, kV_none, vu_app, mgR_0, mgR_3, mgR_12, mgR_13, mgR_14, mgR_16, mgR_17, mgR_18, mgR_19, mgR_20, mgR_21, mgR_2, mgR_7, mgI_1, mgI_4, mgI_5, mgI_6, mgI_8, mgI_9, mgI_10, mgI_11, mgI_15, mgI_22, mpI_1, mpI_4, mpI_5, mpI_6, mpI_8, mpI_9, mpI_10, mpI_11, mpI_15, mpI_22, mlI_0 hA, mlI_3 hA, mlI_12 hA, mlI_13 hA, mlI_14 hA, mlI_16 hA, mlI_17 hA, mlI_18 hA, mlI_19 hA, mlI_20 hA, mlI_21 hA, msI_0 hA, msI_3 hA, msI_12 hA, msI_13 hA, msI_14 hA, msI_16 hA, msI_17 hA, msI_18 hA, msI_19 hA, msI_20 hA, msI_21 hA, mlZ_2 hA, mlZ_7 hA, msZ_2 hA, msZ_7 hA, kI_some, kL_some, kR_some, kV_none, ne_eq, not_true_eq_false, not_false_eq_true, true_implies, false_implies, implies_true, true_and, and_true, ab_z01, or_true, true_or, reduceCtorEq, Option.some.injEq, Int.reduceEq, Int.reduceNe, Int.reduceLT, Int.reduceLE, Int.reduceNeg, Int.reduceAdd, Int.reduceSub, Int.reduceMul, Nat.reduceEqDiff, Nat.reduceAdd, Nat.reduceMul, Int.reduceToNat, ↓reduceIte, e0]
      refine ⟨fun c => absurd c (by omega), fun _ => ?_⟩
      refine lp_up (P := fun k => ∀ sc' ar', mE LyS sc ar sc' ar' → mFL ar' w (no w) → (∀ x, x < no w → ar' 19 x ≤ lay w x ∧ 0 ≤ ar' 19 x ∧ (lay w x ≤ r + 1 → ar' 19 x = lay w x) ∧ (x < k → lay w x ≤ r + 2 → ar' 19 x = lay w x)) → Vx (d + 9) m_X10_finds 0 0 75 [some (vR (some m)), some (vI (r : Int)), some (vI (k : Int)), none] [] (mH h m ad sc' ar') K) (n := no w) ?_ ?_ 0 (by omega) sc' ar' hE hf (fun x hx => ⟨(hl x hx).1, (hl x hx).2.1, (hl x hx).2.2, fun z => absurd z (by omega)⟩)
      · intro sc' ar' hE hf hl
        have e0 : ar' 0 = w := (hE.2 0 (by decide)).trans hw0.symm
        refine B_X10_finds_75 ?_
        simp only [mCV, kI_some, kL_some, kR_some, kV_none, vu_app, mgR_0, mgR_3, mgR_12, mgR_13, mgR_14, mgR_16, mgR_17, mgR_18, mgR_19, mgR_20, mgR_21, mgR_2, mgR_7, mgI_1, mgI_4, mgI_5, mgI_6, mgI_8, mgI_9, mgI_10, mgI_11, mgI_15, mgI_22, mpI_1, mpI_4, mpI_5, mpI_6, mpI_8, mpI_9, mpI_10, mpI_11, mpI_15, mpI_22, mlI_0 hA, mlI_3 hA, mlI_12 hA, mlI_13 hA, mlI_14 hA, mlI_16 hA, mlI_17 hA, mlI_18 hA, mlI_19 hA, mlI_20 hA, mlI_21 hA, msI_0 hA, msI_3 hA, msI_12 hA, msI_13 hA, msI_14 hA, msI_16 hA, msI_17 hA, msI_18 hA, msI_19 hA, msI_20 hA, msI_21 hA, mlZ_2 hA, mlZ_7 hA, msZ_2 hA, msZ_7 hA, kI_some, kL_some, kR_some, kV_none, ne_eq, not_true_eq_false, not_false_eq_true, true_implies, false_implies, implies_true, true_and, and_true, ab_z01, or_true, true_or, reduceCtorEq, Option.some.injEq, Int.reduceEq, Int.reduceNe, Int.reduceLT, Int.reduceLE, Int.reduceNeg, Int.reduceAdd, Int.reduceSub, Int.reduceMul, Nat.reduceEqDiff, Nat.reduceAdd, Nat.reduceMul, Int.reduceToNat, ↓reduceIte, e0]
        exact ⟨fun _ => ⟨i3 (by omega) (by omega), ihr sc' ar' hE hf (fun x hx => ⟨(hl x hx).1, (hl x hx).2.1, fun z => (hl x hx).2.2.2 hx z⟩)⟩, fun c => absurd (by omega) c⟩
      · intro k hk ihk sc' ar' hE hf hl
        have e0 : ar' 0 = w := (hE.2 0 (by decide)).trans hw0.symm
        refine B_X10_finds_75 ?_
        simp only [mCV, kI_some, kL_some, kR_some, kV_none, vu_app, mgR_0, mgR_3, mgR_12, mgR_13, mgR_14, mgR_16, mgR_17, mgR_18, mgR_19, mgR_20, mgR_21, mgR_2, mgR_7, mgI_1, mgI_4, mgI_5, mgI_6, mgI_8, mgI_9, mgI_10, mgI_11, mgI_15, mgI_22, mpI_1, mpI_4, mpI_5, mpI_6, mpI_8, mpI_9, mpI_10, mpI_11, mpI_15, mpI_22, mlI_0 hA, mlI_3 hA, mlI_12 hA, mlI_13 hA, mlI_14 hA, mlI_16 hA, mlI_17 hA, mlI_18 hA, mlI_19 hA, mlI_20 hA, mlI_21 hA, msI_0 hA, msI_3 hA, msI_12 hA, msI_13 hA, msI_14 hA, msI_16 hA, msI_17 hA, msI_18 hA, msI_19 hA, msI_20 hA, msI_21 hA, mlZ_2 hA, mlZ_7 hA, msZ_2 hA, msZ_7 hA, kI_some, kL_some, kR_some, kV_none, ne_eq, not_true_eq_false, not_false_eq_true, true_implies, false_implies, implies_true, true_and, and_true, ab_z01, or_true, true_or, reduceCtorEq, Option.some.injEq, Int.reduceEq, Int.reduceNe, Int.reduceLT, Int.reduceLE, Int.reduceNeg, Int.reduceAdd, Int.reduceSub, Int.reduceMul, Nat.reduceEqDiff, Nat.reduceAdd, Nat.reduceMul, Int.reduceToNat, ↓reduceIte, e0]
        refine ⟨fun c => absurd c (by omega), fun _ => ?_⟩
        refine lp_up (P := fun i => ∀ sc' ar', mE LyS sc ar sc' ar' → mFL ar' w (no w) → (∀ x, x < no w → ar' 19 x ≤ lay w x ∧ 0 ≤ ar' 19 x ∧ (lay w x ≤ r + 1 → ar' 19 x = lay w x) ∧ (x < k → lay w x ≤ r + 2 → ar' 19 x = lay w x)) → (∀ y, y < i → oldB w y k = true → lay w y + 1 = lay w k → lay w k ≤ r + 2 → ar' 19 k = lay w k) → Vx (d + 9) m_X10_finds 0 0 87 [some (vR (some m)), some (vI (r : Int)), some (vI (k : Int)), some (vI (i : Int))] [] (mH h m ad sc' ar') K) (n := no w) ?_ ?_ 0 (by omega) sc' ar' hE hf hl (fun y hy => absurd hy (by omega))
        · intro sc' ar' hE hf hl hy
          have e0 : ar' 0 = w := (hE.2 0 (by decide)).trans hw0.symm
          refine B_X10_finds_87 ?_
          simp only [mCV, kI_some, kL_some, kR_some, kV_none, vu_app, mgR_0, mgR_3, mgR_12, mgR_13, mgR_14, mgR_16, mgR_17, mgR_18, mgR_19, mgR_20, mgR_21, mgR_2, mgR_7, mgI_1, mgI_4, mgI_5, mgI_6, mgI_8, mgI_9, mgI_10, mgI_11, mgI_15, mgI_22, mpI_1, mpI_4, mpI_5, mpI_6, mpI_8, mpI_9, mpI_10, mpI_11, mpI_15, mpI_22, mlI_0 hA, mlI_3 hA, mlI_12 hA, mlI_13 hA, mlI_14 hA, mlI_16 hA, mlI_17 hA, mlI_18 hA, mlI_19 hA, mlI_20 hA, mlI_21 hA, msI_0 hA, msI_3 hA, msI_12 hA, msI_13 hA, msI_14 hA, msI_16 hA, msI_17 hA, msI_18 hA, msI_19 hA, msI_20 hA, msI_21 hA, mlZ_2 hA, mlZ_7 hA, msZ_2 hA, msZ_7 hA, kI_some, kL_some, kR_some, kV_none, ne_eq, not_true_eq_false, not_false_eq_true, true_implies, false_implies, implies_true, true_and, and_true, ab_z01, or_true, true_or, reduceCtorEq, Option.some.injEq, Int.reduceEq, Int.reduceNe, Int.reduceLT, Int.reduceLE, Int.reduceNeg, Int.reduceAdd, Int.reduceSub, Int.reduceMul, Nat.reduceEqDiff, Nat.reduceAdd, Nat.reduceMul, Int.reduceToNat, ↓reduceIte, e0]
          refine ⟨fun _ => ⟨i3 (by omega) (by omega), ihk sc' ar' hE hf (fun x hx => ⟨(hl x hx).1, (hl x hx).2.1, (hl x hx).2.2.1, fun z1 z2 => ?_⟩)⟩, fun c => absurd (by omega) c⟩
          by_cases e : x = k
          · subst e
            by_cases q : lay w x ≤ r + 1
            · exact (hl x hx).2.2.1 q
            · obtain ⟨y, y1, y2, y3⟩ := lay_pred (w := w) (k := x) (by omega)
              exact hy y y1 y2 y3 z2
          · exact (hl x hx).2.2.2 (by omega) z2
        · intro i hi ihi sc' ar' hE hf hl hy
          have e0 : ar' 0 = w := (hE.2 0 (by decide)).trans hw0.symm
          have hlk := hl k hk
          have hli := hl i hi
          have b1 := lay_le hk
          have b2 := lay_le hi
          have same : oldB w i k = true ∧ ar' 19 k ≤ ar' 19 i → False ∨ True := fun _ => Or.inr trivial
          -- the layer stays
          have stay : (oldB w i k = true → ar' 19 i < ar' 19 k) → in32 ((i : Int) + 1) ∧ Vx (d + 9) m_X10_finds 0 0 87 [some (vR (some m)), some (vI (r : Int)), some (vI (k : Int)), some (vI ((i : Int) + 1))] [] (mH h m ad sc' (va_up ar' 19 (va_up (ar' 19) k (ar' 19 k)))) K := by
            intro q
            rw [vu_self, vu_self]
            refine ⟨i3 (by omega) (by omega), ihi sc' ar' hE hf hl (fun y hy1 hy2 hy3 hy4 => ?_)⟩
            by_cases e : y = i
            · subst e
              have q1 := q hy2
              have q2 : ar' 19 y = lay w y := hli.2.2.1 (by omega)
              omega
            · exact hy y (by omega) hy2 hy3 hy4
          refine B_X10_finds_87 ?_
          simp only [mCV, kI_some, kL_some, kR_some, kV_none, vu_app, mgR_0, mgR_3, mgR_12, mgR_13, mgR_14, mgR_16, mgR_17, mgR_18, mgR_19, mgR_20, mgR_21, mgR_2, mgR_7, mgI_1, mgI_4, mgI_5, mgI_6, mgI_8, mgI_9, mgI_10, mgI_11, mgI_15, mgI_22, mpI_1, mpI_4, mpI_5, mpI_6, mpI_8, mpI_9, mpI_10, mpI_11, mpI_15, mpI_22, mlI_0 hA, mlI_3 hA, mlI_12 hA, mlI_13 hA, mlI_14 hA, mlI_16 hA, mlI_17 hA, mlI_18 hA, mlI_19 hA, mlI_20 hA, mlI_21 hA, msI_0 hA, msI_3 hA, msI_12 hA, msI_13 hA, msI_14 hA, msI_16 hA, msI_17 hA, msI_18 hA, msI_19 hA, msI_20 hA, msI_21 hA, mlZ_2 hA, mlZ_7 hA, msZ_2 hA, msZ_7 hA, kI_some, kL_some, kR_some, kV_none, ne_eq, not_true_eq_false, not_false_eq_true, true_implies, false_implies, implies_true, true_and, and_true, ab_z01, or_true, true_or, reduceCtorEq, Option.some.injEq, Int.reduceEq, Int.reduceNe, Int.reduceLT, Int.reduceLE, Int.reduceNeg, Int.reduceAdd, Int.reduceSub, Int.reduceMul, Nat.reduceEqDiff, Nat.reduceAdd, Nat.reduceMul, Int.reduceToNat, ↓reduceIte, e0]
          refine ⟨fun c => absurd c (by omega), fun _ => mc_isOlder hA (by rw [e0]; exact hw) (by rw [e0]; exact hi) (by rw [e0]; exact hk) (by rw [e0]; exact hf) ?_⟩
          rw [e0]
          cases hB : oldB w i k with
          | false =>
            simp only [mCV, kI_some, kL_some, kR_some, kV_none, vu_app, mgR_0, mgR_3, mgR_12, mgR_13, mgR_14, mgR_16, mgR_17, mgR_18, mgR_19, mgR_20, mgR_21, mgR_2, mgR_7, mgI_1, mgI_4, mgI_5, mgI_6, mgI_8, mgI_9, mgI_10, mgI_11, mgI_15, mgI_22, mpI_1, mpI_4, mpI_5, mpI_6, mpI_8, mpI_9, mpI_10, mpI_11, mpI_15, mpI_22, mlI_0 hA, mlI_3 hA, mlI_12 hA, mlI_13 hA, mlI_14 hA, mlI_16 hA, mlI_17 hA, mlI_18 hA, mlI_19 hA, mlI_20 hA, mlI_21 hA, msI_0 hA, msI_3 hA, msI_12 hA, msI_13 hA, msI_14 hA, msI_16 hA, msI_17 hA, msI_18 hA, msI_19 hA, msI_20 hA, msI_21 hA, mlZ_2 hA, mlZ_7 hA, msZ_2 hA, msZ_7 hA, kI_some, kL_some, kR_some, kV_none, ne_eq, not_true_eq_false, not_false_eq_true, true_implies, false_implies, implies_true, true_and, and_true, ab_z01, or_true, true_or, reduceCtorEq, Option.some.injEq, Int.reduceEq, Int.reduceNe, Int.reduceLT, Int.reduceLE, Int.reduceNeg, Int.reduceAdd, Int.reduceSub, Int.reduceMul, Nat.reduceEqDiff, Nat.reduceAdd, Nat.reduceMul, Int.reduceToNat, ↓reduceIte, b2i, Bool.false_eq_true, Int.toNat_natCast]
            have q := stay (fun z => by rw [hB] at z; cases z)
            repeat (first | refine And.intro (by omega) ?_ | refine And.intro (i3 (by omega) (by omega)) ?_)
            exact q.2
          | true =>
            simp only [mCV, kI_some, kL_some, kR_some, kV_none, vu_app, mgR_0, mgR_3, mgR_12, mgR_13, mgR_14, mgR_16, mgR_17, mgR_18, mgR_19, mgR_20, mgR_21, mgR_2, mgR_7, mgI_1, mgI_4, mgI_5, mgI_6, mgI_8, mgI_9, mgI_10, mgI_11, mgI_15, mgI_22, mpI_1, mpI_4, mpI_5, mpI_6, mpI_8, mpI_9, mpI_10, mpI_11, mpI_15, mpI_22, mlI_0 hA, mlI_3 hA, mlI_12 hA, mlI_13 hA, mlI_14 hA, mlI_16 hA, mlI_17 hA, mlI_18 hA, mlI_19 hA, mlI_20 hA, mlI_21 hA, msI_0 hA, msI_3 hA, msI_12 hA, msI_13 hA, msI_14 hA, msI_16 hA, msI_17 hA, msI_18 hA, msI_19 hA, msI_20 hA, msI_21 hA, mlZ_2 hA, mlZ_7 hA, msZ_2 hA, msZ_7 hA, kI_some, kL_some, kR_some, kV_none, ne_eq, not_true_eq_false, not_false_eq_true, true_implies, false_implies, implies_true, true_and, and_true, ab_z01, or_true, true_or, reduceCtorEq, Option.some.injEq, Int.reduceEq, Int.reduceNe, Int.reduceLT, Int.reduceLE, Int.reduceNeg, Int.reduceAdd, Int.reduceSub, Int.reduceMul, Nat.reduceEqDiff, Nat.reduceAdd, Nat.reduceMul, Int.reduceToNat, ↓reduceIte, b2i, Int.toNat_natCast]
            have hlo := lay_old hi hB
            repeat (first | refine And.intro (by omega) ?_ | refine And.intro (i3 (by omega) (by omega)) ?_)
            refine ⟨fun c => ?_, fun c => ?_⟩
            · have q := stay (fun _ => c)
              repeat (first | refine And.intro (by omega) ?_ | refine And.intro (i3 (by omega) (by omega)) ?_)
              exact q.2
            repeat (first | refine And.intro (by omega) ?_ | refine And.intro (i3 (by omega) (by omega)) ?_)
            have n19 : ∀ x, (va_up ar' 19 (va_up (ar' 19) k (ar' 19 i + 1))) 19 x = if x = k then ar' 19 i + 1 else ar' 19 x := fun x => by rw [vu_same, vu_app]
            refine ihi _ _ (hE.ar (by decide)) (fun x hx => by rw [vu_ne (by decide), vu_ne (by decide)]; exact hf x hx) (fun x hx => ?_) (fun y hy1 hy2 hy3 hy4 => ?_)
            · rw [n19]
              by_cases e : x = k
              · subst e
                rw [if_pos rfl]
                refine ⟨by omega, by omega, fun z => ?_, fun z => absurd z (by omega)⟩
                have := hlk.2.2.1 z
                omega
              · rw [if_neg e]
                exact hl x hx
            · rw [n19, if_pos rfl]
              by_cases e : y = i
              · subst e
                have q2 : ar' 19 y = lay w y := hli.2.2.1 (by omega)
                omega
              · have := hy y (by omega) hy2 hy3 hy4
                omega
    · rw [hl1 k hk]
      by_cases q : fsD w k = -1
      · rw [if_pos q, lay_0 q]
        exact ⟨Int.le_refl _, Int.le_refl _, fun _ => rfl⟩
      · rw [if_neg q]
        have := lay_pos q
        exact ⟨by omega, by omega, fun z => by omega⟩
  -- the first loop
  refine lp_up (P := fun i => ∀ sc' ar', mE LyS sc ar sc' ar' → mFL ar' w i → (∀ k, k < i → ar' 19 k = if fsD w k = -1 then 0 else 1) → Vx (d + 9) m_X10_finds 0 0 2 [some (vR (some m)), some (vI (i : Int)), none, none] [] (mH h m ad sc' ar') K) (n := no w) ?_ ?_ 0 (by omega) sc ar mE.rf (fun k hk => absurd hk (by omega)) (fun k hk => absurd hk (by omega))
  · intro sc' ar' hE hf hl
    have e0 : ar' 0 = w := (hE.2 0 (by decide)).trans hw0.symm
    refine B_X10_finds_2 ?_
    simp only [mCV, kI_some, kL_some, kR_some, kV_none, vu_app, mgR_0, mgR_3, mgR_12, mgR_13, mgR_14, mgR_16, mgR_17, mgR_18, mgR_19, mgR_20, mgR_21, mgR_2, mgR_7, mgI_1, mgI_4, mgI_5, mgI_6, mgI_8, mgI_9, mgI_10, mgI_11, mgI_15, mgI_22, mpI_1, mpI_4, mpI_5, mpI_6, mpI_8, mpI_9, mpI_10, mpI_11, mpI_15, mpI_22, mlI_0 hA, mlI_3 hA, mlI_12 hA, mlI_13 hA, mlI_14 hA, mlI_16 hA, mlI_17 hA, mlI_18 hA, mlI_19 hA, mlI_20 hA, mlI_21 hA, msI_0 hA, msI_3 hA, msI_12 hA, msI_13 hA, msI_14 hA, msI_16 hA, msI_17 hA, msI_18 hA, msI_19 hA, msI_20 hA, msI_21 hA, mlZ_2 hA, mlZ_7 hA, msZ_2 hA, msZ_7 hA, kI_some, kL_some, kR_some, kV_none, ne_eq, not_true_eq_false, not_false_eq_true, true_implies, false_implies, implies_true, true_and, and_true, ab_z01, or_true, true_or, reduceCtorEq, Option.some.injEq, Int.reduceEq, Int.reduceNe, Int.reduceLT, Int.reduceLE, Int.reduceNeg, Int.reduceAdd, Int.reduceSub, Int.reduceMul, Nat.reduceEqDiff, Nat.reduceAdd, Nat.reduceMul, Int.reduceToNat, ↓reduceIte, e0]
    exact ⟨fun _ => key sc' ar' hE hf hl, fun c => absurd (by omega) c⟩
  · intro i hi ih sc' ar' hE hf hl
    have e0 : ar' 0 = w := (hE.2 0 (by decide)).trans hw0.symm
    refine B_X10_finds_2 ?_
    simp only [mCV, kI_some, kL_some, kR_some, kV_none, vu_app, mgR_0, mgR_3, mgR_12, mgR_13, mgR_14, mgR_16, mgR_17, mgR_18, mgR_19, mgR_20, mgR_21, mgR_2, mgR_7, mgI_1, mgI_4, mgI_5, mgI_6, mgI_8, mgI_9, mgI_10, mgI_11, mgI_15, mgI_22, mpI_1, mpI_4, mpI_5, mpI_6, mpI_8, mpI_9, mpI_10, mpI_11, mpI_15, mpI_22, mlI_0 hA, mlI_3 hA, mlI_12 hA, mlI_13 hA, mlI_14 hA, mlI_16 hA, mlI_17 hA, mlI_18 hA, mlI_19 hA, mlI_20 hA, mlI_21 hA, msI_0 hA, msI_3 hA, msI_12 hA, msI_13 hA, msI_14 hA, msI_16 hA, msI_17 hA, msI_18 hA, msI_19 hA, msI_20 hA, msI_21 hA, mlZ_2 hA, mlZ_7 hA, msZ_2 hA, msZ_7 hA, kI_some, kL_some, kR_some, kV_none, ne_eq, not_true_eq_false, not_false_eq_true, true_implies, false_implies, implies_true, true_and, and_true, ab_z01, or_true, true_or, reduceCtorEq, Option.some.injEq, Int.reduceEq, Int.reduceNe, Int.reduceLT, Int.reduceLE, Int.reduceNeg, Int.reduceAdd, Int.reduceSub, Int.reduceMul, Nat.reduceEqDiff, Nat.reduceAdd, Nat.reduceMul, Int.reduceToNat, ↓reduceIte, e0]
    refine ⟨fun c => absurd c (by omega), fun _ => mc_firstOf hA (by rw [e0]; exact hw) (by rw [e0]; exact hi) (fun sc1 ar1 hE1 => ?_)⟩
    have e1 : ar1 0 = w := (hE1.2 0 (by decide)).trans e0
    have x17 : ar1 17 = ar' 17 := hE1.2 17 (by decide)
    have x18 : ar1 18 = ar' 18 := hE1.2 18 (by decide)
    have x19 : ar1 19 = ar' 19 := hE1.2 19 (by decide)
    simp only [mCV, kI_some, kL_some, kR_some, kV_none, vu_app, mgR_0, mgR_3, mgR_12, mgR_13, mgR_14, mgR_16, mgR_17, mgR_18, mgR_19, mgR_20, mgR_21, mgR_2, mgR_7, mgI_1, mgI_4, mgI_5, mgI_6, mgI_8, mgI_9, mgI_10, mgI_11, mgI_15, mgI_22, mpI_1, mpI_4, mpI_5, mpI_6, mpI_8, mpI_9, mpI_10, mpI_11, mpI_15, mpI_22, mlI_0 hA, mlI_3 hA, mlI_12 hA, mlI_13 hA, mlI_14 hA, mlI_16 hA, mlI_17 hA, mlI_18 hA, mlI_19 hA, mlI_20 hA, mlI_21 hA, msI_0 hA, msI_3 hA, msI_12 hA, msI_13 hA, msI_14 hA, msI_16 hA, msI_17 hA, msI_18 hA, msI_19 hA, msI_20 hA, msI_21 hA, mlZ_2 hA, mlZ_7 hA, msZ_2 hA, msZ_7 hA, kI_some, kL_some, kR_some, kV_none, ne_eq, not_true_eq_false, not_false_eq_true, true_implies, false_implies, implies_true, true_and, and_true, ab_z01, or_true, true_or, reduceCtorEq, Option.some.injEq, Int.reduceEq, Int.reduceNe, Int.reduceLT, Int.reduceLE, Int.reduceNeg, Int.reduceAdd, Int.reduceSub, Int.reduceMul, Nat.reduceEqDiff, Nat.reduceAdd, Nat.reduceMul, Int.reduceToNat, ↓reduceIte]
    rw [e0]
    refine ⟨by omega, by omega, mc_lastOf hA (by rw [vu_ne (by decide), e1]; exact hw) (by rw [vu_ne (by decide), e1]; exact hi) (fun sc2 ar2 hE2 => ?_)⟩
    have y17 : ar2 17 = va_up (ar' 17) i (fsD w i) := by rw [hE2.2 17 (by decide), vu_same, x17, Int.toNat_natCast]
    have y18 : ar2 18 = ar' 18 := by rw [hE2.2 18 (by decide), vu_ne (by decide), x18]
    have y19 : ar2 19 = ar' 19 := by rw [hE2.2 19 (by decide), vu_ne (by decide), x19]
    simp only [mCV, kI_some, kL_some, kR_some, kV_none, vu_app, mgR_0, mgR_3, mgR_12, mgR_13, mgR_14, mgR_16, mgR_17, mgR_18, mgR_19, mgR_20, mgR_21, mgR_2, mgR_7, mgI_1, mgI_4, mgI_5, mgI_6, mgI_8, mgI_9, mgI_10, mgI_11, mgI_15, mgI_22, mpI_1, mpI_4, mpI_5, mpI_6, mpI_8, mpI_9, mpI_10, mpI_11, mpI_15, mpI_22, mlI_0 hA, mlI_3 hA, mlI_12 hA, mlI_13 hA, mlI_14 hA, mlI_16 hA, mlI_17 hA, mlI_18 hA, mlI_19 hA, mlI_20 hA, mlI_21 hA, msI_0 hA, msI_3 hA, msI_12 hA, msI_13 hA, msI_14 hA, msI_16 hA, msI_17 hA, msI_18 hA, msI_19 hA, msI_20 hA, msI_21 hA, mlZ_2 hA, mlZ_7 hA, msZ_2 hA, msZ_7 hA, kI_some, kL_some, kR_some, kV_none, ne_eq, not_true_eq_false, not_false_eq_true, true_implies, false_implies, implies_true, true_and, and_true, ab_z01, or_true, true_or, reduceCtorEq, Option.some.injEq, Int.reduceEq, Int.reduceNe, Int.reduceLT, Int.reduceLE, Int.reduceNeg, Int.reduceAdd, Int.reduceSub, Int.reduceMul, Nat.reduceEqDiff, Nat.reduceAdd, Nat.reduceMul, Int.reduceToNat, ↓reduceIte, Int.toNat_natCast]
    rw [e1, y17, y18, y19, vu_same]
    have fin : ∀ v : Int, v = (if fsD w i = -1 then 0 else 1) → Vx (d + 9) m_X10_finds 0 0 2 [some (vR (some m)), some (vI ((i : Int) + 1)), none, none] [] (mH h m ad sc2 (va_up (va_up ar2 18 (va_up (ar' 18) i (lsD w i))) 19 (va_up (ar' 19) i v))) K := by
      intro v hv
      refine ih _ _ (((hE.tr (hE1.mono FS_LyS)).tr ⟨?_, ?_⟩)) (fun k hk => ?_) (fun k hk => ?_)
      · intro j hj
        rw [hE2.1 j (fun z => hj (FS_LyS j z))]
      · intro j hj
        have j1 : j ≠ 19 := fun e => hj (by rw [e]; decide)
        have j2 : j ≠ 18 := fun e => hj (by rw [e]; decide)
        have j3 : j ≠ 17 := fun e => hj (by rw [e]; decide)
        rw [vu_ne j1, vu_ne j2, hE2.2 j (fun z => hj (FS_LyS j z)), vu_ne j3]
      · rw [vu_ne (show 17 ≠ 19 by decide), vu_ne (show 17 ≠ 18 by decide), y17, vu_ne (show 18 ≠ 19 by decide), vu_same, vu_app, vu_app]
        by_cases e : k = i
        · rw [if_pos e, if_pos e, e]; exact ⟨rfl, rfl⟩
        · rw [if_neg e, if_neg e]; exact hf k (by omega)
      · rw [vu_same, vu_app]
        by_cases e : k = i
        · rw [if_pos e, hv, e]
        · rw [if_neg e]; exact hl k (by omega)
    refine ⟨by omega, by omega, by omega, by omega, fun c => ⟨by omega, by omega, i3 (by omega) (by omega), fin 1 (by rw [if_neg c])⟩, fun c => ⟨by omega, by omega, i3 (by omega) (by omega), fin 0 (by rw [if_pos (by simpa using c)])⟩⟩
set_option maxRecDepth 100000 in
set_option maxHeartbeats 4000000 in
theorem mc_olderThan {d : Nat} {h : AbH} {m : Nat} {ad : Nat → Nat} {sc : Nat → Int} {ar : Nat → Nat → Int} {K : Option AbV → AbH → Prop} (hA : mA ad) {k : Nat} (hw : wV (ar 0)) (hk : k < no (ar 0)) (hf : mFL ar (ar 0) (no (ar 0))) (kk : K (some (vI (cntN (fun i => oldB (ar 0) i k) (no (ar 0)) : Int))) (mH h m ad sc ar)) : Vm (d + 3) m_X10_olderThan [vR (some m), vI (k : Int)] (mH h m ad sc ar) K := by
  obtain ⟨n1, n2⟩ := hw.now
  refine Vm.intro rfl (Nat.le_of_ble_eq_true rfl) (fun _ => B_X10_olderThan_0 ?_)
  refine lp_up (P := fun i => Vx (d + 3) m_X10_olderThan 0 0 4 [some (vR (some m)), some (vI (k : Int)), some (vI (cntN (fun i => oldB (ar 0) i k) i : Int)), some (vI (i : Int))] [] (mH h m ad sc ar) K) (n := no (ar 0)) ?_ ?_ 0 (by omega)
  · refine B_X10_olderThan_4 ?_
    simp only [mCV, kI_some, kL_some, kR_some, kV_none, vu_app, mgR_0, mgR_3, mgR_12, mgR_13, mgR_14, mgR_16, mgR_17, mgR_18, mgR_19, mgR_20, mgR_21, mgR_2, mgR_7, mgI_1, mgI_4, mgI_5, mgI_6, mgI_8, mgI_9, mgI_10, mgI_11, mgI_15, mgI_22, mpI_1, mpI_4, mpI_5, mpI_6, mpI_8, mpI_9, mpI_10, mpI_11, mpI_15, mpI_22, mlI_0 hA, mlI_3 hA, mlI_12 hA, mlI_13 hA, mlI_14 hA, mlI_16 hA, mlI_17 hA, mlI_18 hA, mlI_19 hA, mlI_20 hA, mlI_21 hA, msI_0 hA, msI_3 hA, msI_12 hA, msI_13 hA, msI_14 hA, msI_16 hA, msI_17 hA, msI_18 hA, msI_19 hA, msI_20 hA, msI_21 hA, mlZ_2 hA, mlZ_7 hA, msZ_2 hA, msZ_7 hA, kI_some, kL_some, kR_some, kV_none, ne_eq, not_true_eq_false, not_false_eq_true, true_implies, false_implies, implies_true, true_and, and_true, ab_z01, or_true, true_or, reduceCtorEq, Option.some.injEq, Int.reduceEq, Int.reduceNe, Int.reduceLT, Int.reduceLE, Int.reduceNeg, Int.reduceAdd, Int.reduceSub, Int.reduceMul, Nat.reduceEqDiff, Nat.reduceAdd, Nat.reduceMul, Int.reduceToNat, ↓reduceIte]
    exact ⟨fun _ => kk, fun c => absurd (by omega) c⟩
  · intro i hi ih
    have hc := cntN_le (fun i => oldB (ar 0) i k) i
    have hs : cntN (fun i => oldB (ar 0) i k) (i + 1) = cntN (fun i => oldB (ar 0) i k) i + (if oldB (ar 0) i k = true then 1 else 0) := rfl
    rw [hs] at ih
    refine B_X10_olderThan_4 ?_
    simp only [mCV, kI_some, kL_some, kR_some, kV_none, vu_app, mgR_0, mgR_3, mgR_12, mgR_13, mgR_14, mgR_16, mgR_17, mgR_18, mgR_19, mgR_20, mgR_21, mgR_2, mgR_7, mgI_1, mgI_4, mgI_5, mgI_6, mgI_8, mgI_9, mgI_10, mgI_11, mgI_15, mgI_22, mpI_1, mpI_4, mpI_5, mpI_6, mpI_8, mpI_9, mpI_10, mpI_11, mpI_15, mpI_22, mlI_0 hA, mlI_3 hA, mlI_12 hA, mlI_13 hA, mlI_14 hA, mlI_16 hA, mlI_17 hA, mlI_18 hA, mlI_19 hA, mlI_20 hA, mlI_21 hA, msI_0 hA, msI_3 hA, msI_12 hA, msI_13 hA, msI_14 hA, msI_16 hA, msI_17 hA, msI_18 hA, msI_19 hA, msI_20 hA, msI_21 hA, mlZ_2 hA, mlZ_7 hA, msZ_2 hA, msZ_7 hA, kI_some, kL_some, kR_some, kV_none, ne_eq, not_true_eq_false, not_false_eq_true, true_implies, false_implies, implies_true, true_and, and_true, ab_z01, or_true, true_or, reduceCtorEq, Option.some.injEq, Int.reduceEq, Int.reduceNe, Int.reduceLT, Int.reduceLE, Int.reduceNeg, Int.reduceAdd, Int.reduceSub, Int.reduceMul, Nat.reduceEqDiff, Nat.reduceAdd, Nat.reduceMul, Int.reduceToNat, ↓reduceIte]
    refine ⟨fun c => absurd c (by omega), fun _ => mc_isOlder hA hw hi hk hf ?_⟩
    cases hB : oldB (ar 0) i k <;> rw [hB] at ih <;> simp only [mCV, kI_some, kL_some, kR_some, kV_none, vu_app, mgR_0, mgR_3, mgR_12, mgR_13, mgR_14, mgR_16, mgR_17, mgR_18, mgR_19, mgR_20, mgR_21, mgR_2, mgR_7, mgI_1, mgI_4, mgI_5, mgI_6, mgI_8, mgI_9, mgI_10, mgI_11, mgI_15, mgI_22, mpI_1, mpI_4, mpI_5, mpI_6, mpI_8, mpI_9, mpI_10, mpI_11, mpI_15, mpI_22, mlI_0 hA, mlI_3 hA, mlI_12 hA, mlI_13 hA, mlI_14 hA, mlI_16 hA, mlI_17 hA, mlI_18 hA, mlI_19 hA, mlI_20 hA, mlI_21 hA, msI_0 hA, msI_3 hA, msI_12 hA, msI_13 hA, msI_14 hA, msI_16 hA, msI_17 hA, msI_18 hA, msI_19 hA, msI_20 hA, msI_21 hA, mlZ_2 hA, mlZ_7 hA, msZ_2 hA, msZ_7 hA, kI_some, kL_some, kR_some, kV_none, ne_eq, not_true_eq_false, not_false_eq_true, true_implies, false_implies, implies_true, true_and, and_true, ab_z01, or_true, true_or, reduceCtorEq, Option.some.injEq, Int.reduceEq, Int.reduceNe, Int.reduceLT, Int.reduceLE, Int.reduceNeg, Int.reduceAdd, Int.reduceSub, Int.reduceMul, Nat.reduceEqDiff, Nat.reduceAdd, Nat.reduceMul, Int.reduceToNat, ↓reduceIte, b2i, Bool.false_eq_true, Int.add_zero, Nat.add_zero] at ih ⊢
    · exact ⟨i3 (by omega) (by omega), i3 (by omega) (by omega), ih⟩
    · exact ⟨i3 (by omega) (by omega), i3 (by omega) (by omega), ih⟩
set_option maxRecDepth 100000 in
set_option maxHeartbeats 4000000 in
theorem mc_ofKind {d : Nat} {h : AbH} {m : Nat} {ad : Nat → Nat} {sc : Nat → Int} {ar : Nat → Nat → Int} {K : Option AbV → AbH → Prop} (hA : mA ad) {q : Int} (hw : wV (ar 0)) (kk : ∀ sc' ar', mE FS sc ar sc' ar' → K (some (vI (cntN (fun i => decide (kndF (fitW (ar 0) i) = q)) (no (ar 0)) : Int))) (mH h m ad sc' ar')) : Vm (d + 10) m_X10_ofKind [vR (some m), vI q] (mH h m ad sc ar) K := by
  obtain ⟨n1, n2⟩ := hw.now
  refine Vm.intro rfl (Nat.le_of_ble_eq_true rfl) (fun _ => B_X10_ofKind_0 ?_)
  refine lp_up (P := fun i => ∀ sc' ar', mE FS sc ar sc' ar' → Vx (d + 10) m_X10_ofKind 0 0 4 [some (vR (some m)), some (vI q), some (vI (cntN (fun i => decide (kndF (fitW (ar 0) i) = q)) i : Int)), some (vI (i : Int))] [] (mH h m ad sc' ar') K) (n := no (ar 0)) ?_ ?_ 0 (by omega) sc ar mE.rf
  · intro sc' ar' hE
    have e0 : ar' 0 = ar 0 := hE.2 0 (by decide)
    refine B_X10_ofKind_4 ?_
    simp only [mCV, kI_some, kL_some, kR_some, kV_none, vu_app, mgR_0, mgR_3, mgR_12, mgR_13, mgR_14, mgR_16, mgR_17, mgR_18, mgR_19, mgR_20, mgR_21, mgR_2, mgR_7, mgI_1, mgI_4, mgI_5, mgI_6, mgI_8, mgI_9, mgI_10, mgI_11, mgI_15, mgI_22, mpI_1, mpI_4, mpI_5, mpI_6, mpI_8, mpI_9, mpI_10, mpI_11, mpI_15, mpI_22, mlI_0 hA, mlI_3 hA, mlI_12 hA, mlI_13 hA, mlI_14 hA, mlI_16 hA, mlI_17 hA, mlI_18 hA, mlI_19 hA, mlI_20 hA, mlI_21 hA, msI_0 hA, msI_3 hA, msI_12 hA, msI_13 hA, msI_14 hA, msI_16 hA, msI_17 hA, msI_18 hA, msI_19 hA, msI_20 hA, msI_21 hA, mlZ_2 hA, mlZ_7 hA, msZ_2 hA, msZ_7 hA, kI_some, kL_some, kR_some, kV_none, ne_eq, not_true_eq_false, not_false_eq_true, true_implies, false_implies, implies_true, true_and, and_true, ab_z01, or_true, true_or, reduceCtorEq, Option.some.injEq, Int.reduceEq, Int.reduceNe, Int.reduceLT, Int.reduceLE, Int.reduceNeg, Int.reduceAdd, Int.reduceSub, Int.reduceMul, Nat.reduceEqDiff, Nat.reduceAdd, Nat.reduceMul, Int.reduceToNat, ↓reduceIte, e0]
    exact ⟨fun _ => kk sc' ar' hE, fun c => absurd (by omega) c⟩
  · intro i hi ih sc' ar' hE
    have e0 : ar' 0 = ar 0 := hE.2 0 (by decide)
    have hc := cntN_le (fun i => decide (kndF (fitW (ar 0) i) = q)) i
    have hs : cntN (fun i => decide (kndF (fitW (ar 0) i) = q)) (i + 1) = cntN (fun i => decide (kndF (fitW (ar 0) i) = q)) i + (if decide (kndF (fitW (ar 0) i) = q) = true then 1 else 0) := rfl
    rw [hs] at ih
    refine B_X10_ofKind_4 ?_
    simp only [mCV, kI_some, kL_some, kR_some, kV_none, vu_app, mgR_0, mgR_3, mgR_12, mgR_13, mgR_14, mgR_16, mgR_17, mgR_18, mgR_19, mgR_20, mgR_21, mgR_2, mgR_7, mgI_1, mgI_4, mgI_5, mgI_6, mgI_8, mgI_9, mgI_10, mgI_11, mgI_15, mgI_22, mpI_1, mpI_4, mpI_5, mpI_6, mpI_8, mpI_9, mpI_10, mpI_11, mpI_15, mpI_22, mlI_0 hA, mlI_3 hA, mlI_12 hA, mlI_13 hA, mlI_14 hA, mlI_16 hA, mlI_17 hA, mlI_18 hA, mlI_19 hA, mlI_20 hA, mlI_21 hA, msI_0 hA, msI_3 hA, msI_12 hA, msI_13 hA, msI_14 hA, msI_16 hA, msI_17 hA, msI_18 hA, msI_19 hA, msI_20 hA, msI_21 hA, mlZ_2 hA, mlZ_7 hA, msZ_2 hA, msZ_7 hA, kI_some, kL_some, kR_some, kV_none, ne_eq, not_true_eq_false, not_false_eq_true, true_implies, false_implies, implies_true, true_and, and_true, ab_z01, or_true, true_or, reduceCtorEq, Option.some.injEq, Int.reduceEq, Int.reduceNe, Int.reduceLT, Int.reduceLE, Int.reduceNeg, Int.reduceAdd, Int.reduceSub, Int.reduceMul, Nat.reduceEqDiff, Nat.reduceAdd, Nat.reduceMul, Int.reduceToNat, ↓reduceIte, e0]
    refine ⟨fun c => absurd c (by omega), fun _ => mc_kind hA (by rw [e0]; exact hw) (by rw [e0]; exact hi) (fun sc2 ar2 hE2 => ?_)⟩
    simp only [mCV, kI_some, kL_some, kR_some, kV_none, vu_app, mgR_0, mgR_3, mgR_12, mgR_13, mgR_14, mgR_16, mgR_17, mgR_18, mgR_19, mgR_20, mgR_21, mgR_2, mgR_7, mgI_1, mgI_4, mgI_5, mgI_6, mgI_8, mgI_9, mgI_10, mgI_11, mgI_15, mgI_22, mpI_1, mpI_4, mpI_5, mpI_6, mpI_8, mpI_9, mpI_10, mpI_11, mpI_15, mpI_22, mlI_0 hA, mlI_3 hA, mlI_12 hA, mlI_13 hA, mlI_14 hA, mlI_16 hA, mlI_17 hA, mlI_18 hA, mlI_19 hA, mlI_20 hA, mlI_21 hA, msI_0 hA, msI_3 hA, msI_12 hA, msI_13 hA, msI_14 hA, msI_16 hA, msI_17 hA, msI_18 hA, msI_19 hA, msI_20 hA, msI_21 hA, mlZ_2 hA, mlZ_7 hA, msZ_2 hA, msZ_7 hA, kI_some, kL_some, kR_some, kV_none, ne_eq, not_true_eq_false, not_false_eq_true, true_implies, false_implies, implies_true, true_and, and_true, ab_z01, or_true, true_or, reduceCtorEq, Option.some.injEq, Int.reduceEq, Int.reduceNe, Int.reduceLT, Int.reduceLE, Int.reduceNeg, Int.reduceAdd, Int.reduceSub, Int.reduceMul, Nat.reduceEqDiff, Nat.reduceAdd, Nat.reduceMul, Int.reduceToNat, ↓reduceIte, e0]
    refine ⟨fun c => ?_, fun c => ?_⟩
    · rw [if_neg (by simpa using c)] at ih
      simp only [Int.add_zero, Nat.add_zero] at ih ⊢
      exact ⟨i3 (by omega) (by omega), i3 (by omega) (by omega), ih sc2 ar2 (hE.tr hE2)⟩
    · rw [if_pos (by simpa using c)] at ih
      exact ⟨i3 (by omega) (by omega), i3 (by omega) (by omega), ih sc2 ar2 (hE.tr hE2)⟩
set_option maxRecDepth 100000 in
set_option maxHeartbeats 4000000 in
theorem mc_greatestLayer {d : Nat} {h : AbH} {m : Nat} {ad : Nat → Nat} {sc : Nat → Int} {ar : Nat → Nat → Int} {K : Option AbV → AbH → Prop} (hA : mA ad) (hw : wV (ar 0)) (kk : ∀ sc' ar', mE LyS sc ar sc' ar' → K (some (vI (mxN (lay (ar 0)) (no (ar 0)) : Int))) (mH h m ad sc' ar')) : Vm (d + 10) m_X10_greatestLayer [vR (some m)] (mH h m ad sc ar) K := by
  obtain ⟨n1, n2⟩ := hw.now
  refine Vm.intro rfl (Nat.le_of_ble_eq_true rfl) (fun _ => B_X10_greatestLayer_0 ?_)
  simp only [mCV]
  refine mc_finds hA hw (fun sc1 ar1 hE1 hf1 hl1 => ?_)
  have e1 : ar1 0 = ar 0 := hE1.2 0 (by decide)
  simp only [kI_some, kL_some, kR_some, kV_none, ne_eq, not_true_eq_false, not_false_eq_true, true_implies, false_implies, implies_true, true_and, and_true, ab_z01, or_true, true_or, reduceCtorEq, Option.some.injEq, Int.reduceEq, Int.reduceNe, Int.reduceLT, Int.reduceLE, Int.reduceNeg, Int.reduceAdd, Int.reduceSub, Int.reduceMul, Nat.reduceEqDiff, Nat.reduceAdd, Nat.reduceMul, Int.reduceToNat, ↓reduceIte]
  refine lp_up (P := fun i => Vx (d + 10) m_X10_greatestLayer 0 0 8 [some (vR (some m)), some (vI (mxN (lay (ar 0)) i : Int)), some (vI (i : Int))] [] (mH h m ad sc1 ar1) K) (n := no (ar 0)) ?_ ?_ 0 (by omega)
  · refine B_X10_greatestLayer_8 ?_
    simp only [mCV, kI_some, kL_some, kR_some, kV_none, vu_app, mgR_0, mgR_3, mgR_12, mgR_13, mgR_14, mgR_16, mgR_17, mgR_18, mgR_19, mgR_20, mgR_21, mgR_2, mgR_7, mgI_1, mgI_4, mgI_5, mgI_6, mgI_8, mgI_9, mgI_10, mgI_11, mgI_15, mgI_22, mpI_1, mpI_4, mpI_5, mpI_6, mpI_8, mpI_9, mpI_10, mpI_11, mpI_15, mpI_22, mlI_0 hA, mlI_3 hA, mlI_12 hA, mlI_13 hA, mlI_14 hA, mlI_16 hA, mlI_17 hA, mlI_18 hA, mlI_19 hA, mlI_20 hA, mlI_21 hA, msI_0 hA, msI_3 hA, msI_12 hA, msI_13 hA, msI_14 hA, msI_16 hA, msI_17 hA, msI_18 hA, msI_19 hA, msI_20 hA, msI_21 hA, mlZ_2 hA, mlZ_7 hA, msZ_2 hA, msZ_7 hA, kI_some, kL_some, kR_some, kV_none, ne_eq, not_true_eq_false, not_false_eq_true, true_implies, false_implies, implies_true, true_and, and_true, ab_z01, or_true, true_or, reduceCtorEq, Option.some.injEq, Int.reduceEq, Int.reduceNe, Int.reduceLT, Int.reduceLE, Int.reduceNeg, Int.reduceAdd, Int.reduceSub, Int.reduceMul, Nat.reduceEqDiff, Nat.reduceAdd, Nat.reduceMul, Int.reduceToNat, ↓reduceIte, e1]
    exact ⟨fun _ => kk sc1 ar1 hE1, fun c => absurd (by omega) c⟩
  · intro i hi ih
    have hs : mxN (lay (ar 0)) (i + 1) = if mxN (lay (ar 0)) i < lay (ar 0) i then lay (ar 0) i else mxN (lay (ar 0)) i := rfl
    rw [hs] at ih
    refine B_X10_greatestLayer_8 ?_
    simp only [mCV, kI_some, kL_some, kR_some, kV_none, vu_app, mgR_0, mgR_3, mgR_12, mgR_13, mgR_14, mgR_16, mgR_17, mgR_18, mgR_19, mgR_20, mgR_21, mgR_2, mgR_7, mgI_1, mgI_4, mgI_5, mgI_6, mgI_8, mgI_9, mgI_10, mgI_11, mgI_15, mgI_22, mpI_1, mpI_4, mpI_5, mpI_6, mpI_8, mpI_9, mpI_10, mpI_11, mpI_15, mpI_22, mlI_0 hA, mlI_3 hA, mlI_12 hA, mlI_13 hA, mlI_14 hA, mlI_16 hA, mlI_17 hA, mlI_18 hA, mlI_19 hA, mlI_20 hA, mlI_21 hA, msI_0 hA, msI_3 hA, msI_12 hA, msI_13 hA, msI_14 hA, msI_16 hA, msI_17 hA, msI_18 hA, msI_19 hA, msI_20 hA, msI_21 hA, mlZ_2 hA, mlZ_7 hA, msZ_2 hA, msZ_7 hA, kI_some, kL_some, kR_some, kV_none, ne_eq, not_true_eq_false, not_false_eq_true, true_implies, false_implies, implies_true, true_and, and_true, ab_z01, or_true, true_or, reduceCtorEq, Option.some.injEq, Int.reduceEq, Int.reduceNe, Int.reduceLT, Int.reduceLE, Int.reduceNeg, Int.reduceAdd, Int.reduceSub, Int.reduceMul, Nat.reduceEqDiff, Nat.reduceAdd, Nat.reduceMul, Int.reduceToNat, ↓reduceIte, e1, Int.toNat_natCast, hl1 i hi]
    refine ⟨fun c => absurd c (by omega), fun _ => ⟨by omega, by omega, fun c => ⟨i3 (by omega) (by omega), ?_⟩, fun c => ⟨by omega, by omega, i3 (by omega) (by omega), ?_⟩⟩⟩
    · rw [if_neg (by omega)] at ih
      exact ih
    · rw [if_pos (by omega)] at ih
      exact ih
set_option maxRecDepth 100000 in
set_option maxHeartbeats 4000000 in
theorem mc_lawsOf {d : Nat} {h : AbH} {m : Nat} {ad : Nat → Nat} {sc : Nat → Int} {ar : Nat → Nat → Int} {K : Option AbV → AbH → Prop} (hA : mA ad) {q : Int} (hw : wV (ar 0)) (kk : K (some (vI (cntN (fun i => decide (lw (ar 0) i 0 = q)) (nl (ar 0)) : Int))) (mH h m ad sc ar)) : Vm (d + 2) m_X10_lawsOf [vR (some m), vI q] (mH h m ad sc ar) K := by
  obtain ⟨n1, n2⟩ := hw.nlw
  refine Vm.intro rfl (Nat.le_of_ble_eq_true rfl) (fun _ => B_X10_lawsOf_0 ?_)
  refine lp_up (P := fun i => Vx (d + 2) m_X10_lawsOf 0 0 4 [some (vR (some m)), some (vI q), some (vI (cntN (fun i => decide (lw (ar 0) i 0 = q)) i : Int)), some (vI (i : Int))] [] (mH h m ad sc ar) K) (n := nl (ar 0)) ?_ ?_ 0 (by omega)
  · refine B_X10_lawsOf_4 ?_
    simp only [mCV, kI_some, kL_some, kR_some, kV_none, vu_app, mgR_0, mgR_3, mgR_12, mgR_13, mgR_14, mgR_16, mgR_17, mgR_18, mgR_19, mgR_20, mgR_21, mgR_2, mgR_7, mgI_1, mgI_4, mgI_5, mgI_6, mgI_8, mgI_9, mgI_10, mgI_11, mgI_15, mgI_22, mpI_1, mpI_4, mpI_5, mpI_6, mpI_8, mpI_9, mpI_10, mpI_11, mpI_15, mpI_22, mlI_0 hA, mlI_3 hA, mlI_12 hA, mlI_13 hA, mlI_14 hA, mlI_16 hA, mlI_17 hA, mlI_18 hA, mlI_19 hA, mlI_20 hA, mlI_21 hA, msI_0 hA, msI_3 hA, msI_12 hA, msI_13 hA, msI_14 hA, msI_16 hA, msI_17 hA, msI_18 hA, msI_19 hA, msI_20 hA, msI_21 hA, mlZ_2 hA, mlZ_7 hA, msZ_2 hA, msZ_7 hA, kI_some, kL_some, kR_some, kV_none, ne_eq, not_true_eq_false, not_false_eq_true, true_implies, false_implies, implies_true, true_and, and_true, ab_z01, or_true, true_or, reduceCtorEq, Option.some.injEq, Int.reduceEq, Int.reduceNe, Int.reduceLT, Int.reduceLE, Int.reduceNeg, Int.reduceAdd, Int.reduceSub, Int.reduceMul, Nat.reduceEqDiff, Nat.reduceAdd, Nat.reduceMul, Int.reduceToNat, ↓reduceIte]
    exact ⟨fun _ => kk, fun c => absurd (by omega) c⟩
  · intro i hi ih
    have hc := cntN_le (fun i => decide (lw (ar 0) i 0 = q)) i
    have hs : cntN (fun i => decide (lw (ar 0) i 0 = q)) (i + 1) = cntN (fun i => decide (lw (ar 0) i 0 = q)) i + (if decide (lw (ar 0) i 0 = q) = true then 1 else 0) := rfl
    rw [hs] at ih
    refine B_X10_lawsOf_4 ?_
    simp only [mCV, kI_some, kL_some, kR_some, kV_none, vu_app, mgR_0, mgR_3, mgR_12, mgR_13, mgR_14, mgR_16, mgR_17, mgR_18, mgR_19, mgR_20, mgR_21, mgR_2, mgR_7, mgI_1, mgI_4, mgI_5, mgI_6, mgI_8, mgI_9, mgI_10, mgI_11, mgI_15, mgI_22, mpI_1, mpI_4, mpI_5, mpI_6, mpI_8, mpI_9, mpI_10, mpI_11, mpI_15, mpI_22, mlI_0 hA, mlI_3 hA, mlI_12 hA, mlI_13 hA, mlI_14 hA, mlI_16 hA, mlI_17 hA, mlI_18 hA, mlI_19 hA, mlI_20 hA, mlI_21 hA, msI_0 hA, msI_3 hA, msI_12 hA, msI_13 hA, msI_14 hA, msI_16 hA, msI_17 hA, msI_18 hA, msI_19 hA, msI_20 hA, msI_21 hA, mlZ_2 hA, mlZ_7 hA, msZ_2 hA, msZ_7 hA, kI_some, kL_some, kR_some, kV_none, ne_eq, not_true_eq_false, not_false_eq_true, true_implies, false_implies, implies_true, true_and, and_true, ab_z01, or_true, true_or, reduceCtorEq, Option.some.injEq, Int.reduceEq, Int.reduceNe, Int.reduceLT, Int.reduceLE, Int.reduceNeg, Int.reduceAdd, Int.reduceSub, Int.reduceMul, Nat.reduceEqDiff, Nat.reduceAdd, Nat.reduceMul, Int.reduceToNat, ↓reduceIte]
    refine ⟨fun c => absurd c (by omega), fun _ => mc_lawOf hA (j := 0) (by omega) (by decide) ?_⟩
    have z0 : ar 0 (2 + 6 * i + 0) = lw (ar 0) i 0 := rfl
    rw [z0]
    simp only [mCV, kI_some, kL_some, kR_some, kV_none, vu_app, mgR_0, mgR_3, mgR_12, mgR_13, mgR_14, mgR_16, mgR_17, mgR_18, mgR_19, mgR_20, mgR_21, mgR_2, mgR_7, mgI_1, mgI_4, mgI_5, mgI_6, mgI_8, mgI_9, mgI_10, mgI_11, mgI_15, mgI_22, mpI_1, mpI_4, mpI_5, mpI_6, mpI_8, mpI_9, mpI_10, mpI_11, mpI_15, mpI_22, mlI_0 hA, mlI_3 hA, mlI_12 hA, mlI_13 hA, mlI_14 hA, mlI_16 hA, mlI_17 hA, mlI_18 hA, mlI_19 hA, mlI_20 hA, mlI_21 hA, msI_0 hA, msI_3 hA, msI_12 hA, msI_13 hA, msI_14 hA, msI_16 hA, msI_17 hA, msI_18 hA, msI_19 hA, msI_20 hA, msI_21 hA, mlZ_2 hA, mlZ_7 hA, msZ_2 hA, msZ_7 hA, kI_some, kL_some, kR_some, kV_none, ne_eq, not_true_eq_false, not_false_eq_true, true_implies, false_implies, implies_true, true_and, and_true, ab_z01, or_true, true_or, reduceCtorEq, Option.some.injEq, Int.reduceEq, Int.reduceNe, Int.reduceLT, Int.reduceLE, Int.reduceNeg, Int.reduceAdd, Int.reduceSub, Int.reduceMul, Nat.reduceEqDiff, Nat.reduceAdd, Nat.reduceMul, Int.reduceToNat, ↓reduceIte]
    refine ⟨fun c => ?_, fun c => ?_⟩
    · rw [if_neg (by simpa using c)] at ih
      simp only [Int.add_zero, Nat.add_zero] at ih ⊢
      exact ⟨i3 (by omega) (by omega), i3 (by omega) (by omega), ih⟩
    · rw [if_pos (by simpa using c)] at ih
      exact ⟨i3 (by omega) (by omega), i3 (by omega) (by omega), ih⟩
