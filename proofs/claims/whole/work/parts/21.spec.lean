/-! words for the state: w is the model's row (its first 394 places: one world) -/
theorem i3 {n : Int} (h1 : -2147483648 ≤ n) (h2 : n ≤ 2147483647) : in32 n := ⟨h1, h2⟩
/-- bounds of a world that hold whatever is told -/
def wB (w : Nat → Int) : Prop := (0 ≤ w 0 ∧ w 0 ≤ 16) ∧ (0 ≤ w 1 ∧ w 1 ≤ 12)
/-- met -/
def wMet (w : Nat → Int) (f t d : Int) : Prop := 0 < w (98 + 2 * (4 * f.toNat + t.toNat)) ∧ w (98 + 2 * (4 * f.toNat + t.toNat)) - 1 ≤ d ∧ d ≤ w (98 + 2 * (4 * f.toNat + t.toNat) + 1)
def tg (t : Int) : Prop := 0 ≤ t ∧ t ≤ 3
/-- number of meetings among the first n -/
def mtN (w : Nat → Int) : Nat → Int
  | 0 => 0
  | n + 1 => mtN w n + (if w (98 + 2 * n) ≤ 0 then 0 else 1)
theorem mtN_le (w : Nat → Int) : ∀ n, 0 ≤ mtN w n ∧ mtN w n ≤ n
  | 0 => ⟨Int.le_refl 0, Int.le_refl 0⟩
  | n + 1 => by
    have := mtN_le w n
    unfold mtN
    split <;> omega
/-! the model's small methods -/
theorem mc_in {d : Nat} {h : AbH} {K : Option AbV → AbH → Prop} {v a b : Int} (k1 : a ≤ v ∧ v ≤ b → K (some (vI 1)) h) (k0 : ¬ (a ≤ v ∧ v ≤ b) → K (some (vI 0)) h) : Vm (d + 1) m_X10_in [vL v, vL a, vL b] h K := by
  refine Vm.intro rfl (Nat.le_of_ble_eq_true rfl) (fun _ => B_X10_in_0 ?_)
  exact ⟨fun c => k0 (by omega), fun c => ⟨fun c2 => k0 (by omega), fun c2 => k1 (by omega)⟩⟩
theorem mc_isTongue {d : Nat} {h : AbH} {K : Option AbV → AbH → Prop} {v : Int} (k1 : tg v → K (some (vI 1)) h) (k0 : ¬ tg v → K (some (vI 0)) h) : Vm (d + 2) m_X10_isTongue [vI v] h K := by
  refine Vm.intro rfl (Nat.le_of_ble_eq_true rfl) (fun _ => B_X10_isTongue_0 ?_)
  refine mc_in (fun c => ?_) (fun c => ?_) <;> simp only [kI_some, kL_some, kR_some, kV_none, ne_eq, not_true_eq_false, not_false_eq_true, true_implies, false_implies, implies_true, true_and, and_true, ab_z01, or_true, true_or, reduceCtorEq, Option.some.injEq, Int.reduceEq, Int.reduceNe, Int.reduceLT, Int.reduceLE, Int.reduceNeg, Int.reduceAdd, Int.reduceSub, Int.reduceMul, Nat.reduceEqDiff, Nat.reduceAdd, Nat.reduceMul, Int.reduceToNat, ↓reduceIte]
  · exact k1 c
  · exact k0 c
theorem mc_areTongues {d : Nat} {h : AbH} {K : Option AbV → AbH → Prop} {a b : Int} (k1 : tg a ∧ tg b ∧ a ≠ b → K (some (vI 1)) h) (k0 : ¬ (tg a ∧ tg b ∧ a ≠ b) → K (some (vI 0)) h) : Vm (d + 3) m_X10_areTongues [vI a, vI b] h K := by
  refine Vm.intro rfl (Nat.le_of_ble_eq_true rfl) (fun _ => B_X10_areTongues_0 ?_)
  refine mc_isTongue (fun c => ?_) (fun c => ?_) <;> simp only [kI_some, kL_some, kR_some, kV_none, ne_eq, not_true_eq_false, not_false_eq_true, true_implies, false_implies, implies_true, true_and, and_true, ab_z01, or_true, true_or, reduceCtorEq, Option.some.injEq, Int.reduceEq, Int.reduceNe, Int.reduceLT, Int.reduceLE, Int.reduceNeg, Int.reduceAdd, Int.reduceSub, Int.reduceMul, Nat.reduceEqDiff, Nat.reduceAdd, Nat.reduceMul, Int.reduceToNat, ↓reduceIte]
  · refine mc_isTongue (fun c2 => ?_) (fun c2 => ?_) <;> simp only [kI_some, kL_some, kR_some, kV_none, ne_eq, not_true_eq_false, not_false_eq_true, true_implies, false_implies, implies_true, true_and, and_true, ab_z01, or_true, true_or, reduceCtorEq, Option.some.injEq, Int.reduceEq, Int.reduceNe, Int.reduceLT, Int.reduceLE, Int.reduceNeg, Int.reduceAdd, Int.reduceSub, Int.reduceMul, Nat.reduceEqDiff, Nat.reduceAdd, Nat.reduceMul, Int.reduceToNat, ↓reduceIte]
    · exact ⟨fun e => k0 (fun z => z.2.2 e), fun e => k1 ⟨c, c2, e⟩⟩
    · exact k0 (fun z => c2 z.2.1)
  · exact k0 (fun z => c z.1)
theorem mc_isDate {d : Nat} {h : AbH} {K : Option AbV → AbH → Prop} {v : Int} (k1 : 0 ≤ v ∧ v ≤ 99 → K (some (vI 1)) h) (k0 : ¬ (0 ≤ v ∧ v ≤ 99) → K (some (vI 0)) h) : Vm (d + 2) m_X10_isDate [vI v] h K := by
  refine Vm.intro rfl (Nat.le_of_ble_eq_true rfl) (fun _ => B_X10_isDate_0 ?_)
  refine mc_in (fun c => ?_) (fun c => ?_) <;> simp only [kI_some, kL_some, kR_some, kV_none, ne_eq, not_true_eq_false, not_false_eq_true, true_implies, false_implies, implies_true, true_and, and_true, ab_z01, or_true, true_or, reduceCtorEq, Option.some.injEq, Int.reduceEq, Int.reduceNe, Int.reduceLT, Int.reduceLE, Int.reduceNeg, Int.reduceAdd, Int.reduceSub, Int.reduceMul, Nat.reduceEqDiff, Nat.reduceAdd, Nat.reduceMul, Int.reduceToNat, ↓reduceIte]
  · exact k1 c
  · exact k0 c
theorem mc_isSmall {d : Nat} {h : AbH} {K : Option AbV → AbH → Prop} {v : Int} (k1 : 97 ≤ v ∧ v ≤ 122 → K (some (vI 1)) h) (k0 : ¬ (97 ≤ v ∧ v ≤ 122) → K (some (vI 0)) h) : Vm (d + 2) m_X10_isSmall [vI v] h K := by
  refine Vm.intro rfl (Nat.le_of_ble_eq_true rfl) (fun _ => B_X10_isSmall_0 ?_)
  refine mc_in (fun c => ?_) (fun c => ?_) <;> simp only [kI_some, kL_some, kR_some, kV_none, ne_eq, not_true_eq_false, not_false_eq_true, true_implies, false_implies, implies_true, true_and, and_true, ab_z01, or_true, true_or, reduceCtorEq, Option.some.injEq, Int.reduceEq, Int.reduceNe, Int.reduceLT, Int.reduceLE, Int.reduceNeg, Int.reduceAdd, Int.reduceSub, Int.reduceMul, Nat.reduceEqDiff, Nat.reduceAdd, Nat.reduceMul, Int.reduceToNat, ↓reduceIte]
  · exact k1 c
  · exact k0 c
theorem mc_isDigit {d : Nat} {h : AbH} {K : Option AbV → AbH → Prop} {v : Int} (k1 : 48 ≤ v ∧ v ≤ 57 → K (some (vI 1)) h) (k0 : ¬ (48 ≤ v ∧ v ≤ 57) → K (some (vI 0)) h) : Vm (d + 2) m_X10_isDigit [vI v] h K := by
  refine Vm.intro rfl (Nat.le_of_ble_eq_true rfl) (fun _ => B_X10_isDigit_0 ?_)
  refine mc_in (fun c => ?_) (fun c => ?_) <;> simp only [kI_some, kL_some, kR_some, kV_none, ne_eq, not_true_eq_false, not_false_eq_true, true_implies, false_implies, implies_true, true_and, and_true, ab_z01, or_true, true_or, reduceCtorEq, Option.some.injEq, Int.reduceEq, Int.reduceNe, Int.reduceLT, Int.reduceLE, Int.reduceNeg, Int.reduceAdd, Int.reduceSub, Int.reduceMul, Nat.reduceEqDiff, Nat.reduceAdd, Nat.reduceMul, Int.reduceToNat, ↓reduceIte]
  · exact k1 c
  · exact k0 c
theorem mc_isLaw {d : Nat} {h : AbH} {m : Nat} {ad : Nat → Nat} {sc : Nat → Int} {ar : Nat → Nat → Int} {K : Option AbV → AbH → Prop} (hA : mA ad) {v : Int} (hw : wB (ar 0)) (k1 : 0 ≤ v ∧ v < ar 0 0 → K (some (vI 1)) (mH h m ad sc ar)) (k0 : ¬ (0 ≤ v ∧ v < ar 0 0) → K (some (vI 0)) (mH h m ad sc ar)) : Vm (d + 2) m_X10_isLaw [vR (some m), vI v] (mH h m ad sc ar) K := by
  refine Vm.intro rfl (Nat.le_of_ble_eq_true rfl) (fun _ => B_X10_isLaw_0 ?_)
  simp only [mCV, kI_some, kL_some, kR_some, kV_none, vu_app, mgR_0, mgR_3, mgR_12, mgR_13, mgR_14, mgR_16, mgR_17, mgR_18, mgR_19, mgR_20, mgR_21, mgR_2, mgR_7, mgI_1, mgI_4, mgI_5, mgI_6, mgI_8, mgI_9, mgI_10, mgI_11, mgI_15, mgI_22, mpI_1, mpI_4, mpI_5, mpI_6, mpI_8, mpI_9, mpI_10, mpI_11, mpI_15, mpI_22, mlI_0 hA, mlI_3 hA, mlI_12 hA, mlI_13 hA, mlI_14 hA, mlI_16 hA, mlI_17 hA, mlI_18 hA, mlI_19 hA, mlI_20 hA, mlI_21 hA, msI_0 hA, msI_3 hA, msI_12 hA, msI_13 hA, msI_14 hA, msI_16 hA, msI_17 hA, msI_18 hA, msI_19 hA, msI_20 hA, msI_21 hA, mlZ_2 hA, mlZ_7 hA, msZ_2 hA, msZ_7 hA, kI_some, kL_some, kR_some, kV_none, ne_eq, not_true_eq_false, not_false_eq_true, true_implies, false_implies, implies_true, true_and, and_true, ab_z01, or_true, true_or, reduceCtorEq, Option.some.injEq, Int.reduceEq, Int.reduceNe, Int.reduceLT, Int.reduceLE, Int.reduceNeg, Int.reduceAdd, Int.reduceSub, Int.reduceMul, Nat.reduceEqDiff, Nat.reduceAdd, Nat.reduceMul, Int.reduceToNat, ↓reduceIte]
  have := hw.1
  refine ⟨i3 (by omega) (by omega), mc_in (fun c => ?_) (fun c => ?_)⟩ <;> simp only [kI_some, kL_some, kR_some, kV_none, ne_eq, not_true_eq_false, not_false_eq_true, true_implies, false_implies, implies_true, true_and, and_true, ab_z01, or_true, true_or, reduceCtorEq, Option.some.injEq, Int.reduceEq, Int.reduceNe, Int.reduceLT, Int.reduceLE, Int.reduceNeg, Int.reduceAdd, Int.reduceSub, Int.reduceMul, Nat.reduceEqDiff, Nat.reduceAdd, Nat.reduceMul, Int.reduceToNat, ↓reduceIte]
  · exact k1 (by omega)
  · exact k0 (by omega)
theorem mc_isLoan {d : Nat} {h : AbH} {m : Nat} {ad : Nat → Nat} {sc : Nat → Int} {ar : Nat → Nat → Int} {K : Option AbV → AbH → Prop} (hA : mA ad) {v : Int} (hw : wB (ar 0)) (k1 : 0 ≤ v ∧ v < ar 0 1 → K (some (vI 1)) (mH h m ad sc ar)) (k0 : ¬ (0 ≤ v ∧ v < ar 0 1) → K (some (vI 0)) (mH h m ad sc ar)) : Vm (d + 2) m_X10_isLoan [vR (some m), vI v] (mH h m ad sc ar) K := by
  refine Vm.intro rfl (Nat.le_of_ble_eq_true rfl) (fun _ => B_X10_isLoan_0 ?_)
  simp only [mCV, kI_some, kL_some, kR_some, kV_none, vu_app, mgR_0, mgR_3, mgR_12, mgR_13, mgR_14, mgR_16, mgR_17, mgR_18, mgR_19, mgR_20, mgR_21, mgR_2, mgR_7, mgI_1, mgI_4, mgI_5, mgI_6, mgI_8, mgI_9, mgI_10, mgI_11, mgI_15, mgI_22, mpI_1, mpI_4, mpI_5, mpI_6, mpI_8, mpI_9, mpI_10, mpI_11, mpI_15, mpI_22, mlI_0 hA, mlI_3 hA, mlI_12 hA, mlI_13 hA, mlI_14 hA, mlI_16 hA, mlI_17 hA, mlI_18 hA, mlI_19 hA, mlI_20 hA, mlI_21 hA, msI_0 hA, msI_3 hA, msI_12 hA, msI_13 hA, msI_14 hA, msI_16 hA, msI_17 hA, msI_18 hA, msI_19 hA, msI_20 hA, msI_21 hA, mlZ_2 hA, mlZ_7 hA, msZ_2 hA, msZ_7 hA, kI_some, kL_some, kR_some, kV_none, ne_eq, not_true_eq_false, not_false_eq_true, true_implies, false_implies, implies_true, true_and, and_true, ab_z01, or_true, true_or, reduceCtorEq, Option.some.injEq, Int.reduceEq, Int.reduceNe, Int.reduceLT, Int.reduceLE, Int.reduceNeg, Int.reduceAdd, Int.reduceSub, Int.reduceMul, Nat.reduceEqDiff, Nat.reduceAdd, Nat.reduceMul, Int.reduceToNat, ↓reduceIte]
  have := hw.2
  refine ⟨i3 (by omega) (by omega), mc_in (fun c => ?_) (fun c => ?_)⟩ <;> simp only [kI_some, kL_some, kR_some, kV_none, ne_eq, not_true_eq_false, not_false_eq_true, true_implies, false_implies, implies_true, true_and, and_true, ab_z01, or_true, true_or, reduceCtorEq, Option.some.injEq, Int.reduceEq, Int.reduceNe, Int.reduceLT, Int.reduceLE, Int.reduceNeg, Int.reduceAdd, Int.reduceSub, Int.reduceMul, Nat.reduceEqDiff, Nat.reduceAdd, Nat.reduceMul, Int.reduceToNat, ↓reduceIte]
  · exact k1 (by omega)
  · exact k0 (by omega)
theorem mc_lawOf {d : Nat} {h : AbH} {m : Nat} {ad : Nat → Nat} {sc : Nat → Int} {ar : Nat → Nat → Int} {K : Option AbV → AbH → Prop} (hA : mA ad) {k j : Nat} (hk : k ≤ 16) (hj : j < 6) (k1 : K (some (vI (ar 0 (2 + 6 * k + j)))) (mH h m ad sc ar)) : Vm (d + 1) m_X10_lawOf [vR (some m), vI (k : Int), vI (j : Int)] (mH h m ad sc ar) K := by
  refine Vm.intro rfl (Nat.le_of_ble_eq_true rfl) (fun _ => B_X10_lawOf_0 ?_)
  simp only [mCV, kI_some, kL_some, kR_some, kV_none, vu_app, mgR_0, mgR_3, mgR_12, mgR_13, mgR_14, mgR_16, mgR_17, mgR_18, mgR_19, mgR_20, mgR_21, mgR_2, mgR_7, mgI_1, mgI_4, mgI_5, mgI_6, mgI_8, mgI_9, mgI_10, mgI_11, mgI_15, mgI_22, mpI_1, mpI_4, mpI_5, mpI_6, mpI_8, mpI_9, mpI_10, mpI_11, mpI_15, mpI_22, mlI_0 hA, mlI_3 hA, mlI_12 hA, mlI_13 hA, mlI_14 hA, mlI_16 hA, mlI_17 hA, mlI_18 hA, mlI_19 hA, mlI_20 hA, mlI_21 hA, msI_0 hA, msI_3 hA, msI_12 hA, msI_13 hA, msI_14 hA, msI_16 hA, msI_17 hA, msI_18 hA, msI_19 hA, msI_20 hA, msI_21 hA, mlZ_2 hA, mlZ_7 hA, msZ_2 hA, msZ_7 hA, kI_some, kL_some, kR_some, kV_none, ne_eq, not_true_eq_false, not_false_eq_true, true_implies, false_implies, implies_true, true_and, and_true, ab_z01, or_true, true_or, reduceCtorEq, Option.some.injEq, Int.reduceEq, Int.reduceNe, Int.reduceLT, Int.reduceLE, Int.reduceNeg, Int.reduceAdd, Int.reduceSub, Int.reduceMul, Nat.reduceEqDiff, Nat.reduceAdd, Nat.reduceMul, Int.reduceToNat, ↓reduceIte]
  refine ⟨i3 (by omega) (by omega), i3 (by omega) (by omega), i3 (by omega) (by omega), by omega, by omega, ?_⟩
  rw [show (2 + 6 * (k : Int) + (j : Int)).toNat = 2 + 6 * k + j by omega]
  exact k1
theorem mc_loanAt {d : Nat} {h : AbH} {K : Option AbV → AbH → Prop} {v : Int} (hv : -1 ≤ v ∧ v ≤ 100) (k : K (some (vI (130 + 22 * v))) h) : Vm (d + 1) m_X10_loanAt [vI v] h K := by
  refine Vm.intro rfl (Nat.le_of_ble_eq_true rfl) (fun _ => B_X10_loanAt_0 ?_)
  exact ⟨i3 (by omega) (by omega), i3 (by omega) (by omega), k⟩
theorem mc_meetAt {d : Nat} {h : AbH} {K : Option AbV → AbH → Prop} {a b : Int} (ha : tg a) (hb : tg b) (k : K (some (vI (98 + 2 * (4 * a + b)))) h) : Vm (d + 1) m_X10_meetAt [vI a, vI b] h K := by
  refine Vm.intro rfl (Nat.le_of_ble_eq_true rfl) (fun _ => B_X10_meetAt_0 ?_)
  have h1 := ha.1
  have h2 := ha.2
  have h3 := hb.1
  have h4 := hb.2
  exact ⟨i3 (by omega) (by omega), i3 (by omega) (by omega), i3 (by omega) (by omega), i3 (by omega) (by omega), k⟩
theorem mc_meetings {d : Nat} {h : AbH} {m : Nat} {ad : Nat → Nat} {sc : Nat → Int} {ar : Nat → Nat → Int} {K : Option AbV → AbH → Prop} (hA : mA ad) (k : K (some (vI (mtN (ar 0) 16))) (mH h m ad sc ar)) : Vm (d + 1) m_X10_meetings [vR (some m)] (mH h m ad sc ar) K := by
  refine Vm.intro rfl (Nat.le_of_ble_eq_true rfl) (fun _ => B_X10_meetings_0 ?_)
  refine lp_up (P := fun i => Vx (d + 1) m_X10_meetings 0 0 4 [some (vR (some m)), some (vI (mtN (ar 0) i)), some (vI (i : Int))] [] (mH h m ad sc ar) K) (n := 16) ?_ ?_ 0 (by decide)
  · exact B_X10_meetings_4 ⟨fun _ => k, fun e => absurd (by decide) e⟩
  · intro i hi ih
    have := mtN_le (ar 0) i
    refine B_X10_meetings_4 ⟨fun e => absurd e (by omega), fun _ => ?_⟩
    simp only [mCV, kI_some, kL_some, kR_some, kV_none, vu_app, mgR_0, mgR_3, mgR_12, mgR_13, mgR_14, mgR_16, mgR_17, mgR_18, mgR_19, mgR_20, mgR_21, mgR_2, mgR_7, mgI_1, mgI_4, mgI_5, mgI_6, mgI_8, mgI_9, mgI_10, mgI_11, mgI_15, mgI_22, mpI_1, mpI_4, mpI_5, mpI_6, mpI_8, mpI_9, mpI_10, mpI_11, mpI_15, mpI_22, mlI_0 hA, mlI_3 hA, mlI_12 hA, mlI_13 hA, mlI_14 hA, mlI_16 hA, mlI_17 hA, mlI_18 hA, mlI_19 hA, mlI_20 hA, mlI_21 hA, msI_0 hA, msI_3 hA, msI_12 hA, msI_13 hA, msI_14 hA, msI_16 hA, msI_17 hA, msI_18 hA, msI_19 hA, msI_20 hA, msI_21 hA, mlZ_2 hA, mlZ_7 hA, msZ_2 hA, msZ_7 hA, kI_some, kL_some, kR_some, kV_none, ne_eq, not_true_eq_false, not_false_eq_true, true_implies, false_implies, implies_true, true_and, and_true, ab_z01, or_true, true_or, reduceCtorEq, Option.some.injEq, Int.reduceEq, Int.reduceNe, Int.reduceLT, Int.reduceLE, Int.reduceNeg, Int.reduceAdd, Int.reduceSub, Int.reduceMul, Nat.reduceEqDiff, Nat.reduceAdd, Nat.reduceMul, Int.reduceToNat, ↓reduceIte]
    refine ⟨i3 (by omega) (by omega), i3 (by omega) (by omega), by omega, by omega, ?_⟩
    rw [show (98 + 2 * (i : Int)).toNat = 98 + 2 * i by omega]
    unfold mtN at ih
    refine ⟨fun c => ⟨i3 (by omega) (by omega), i3 (by omega) (by omega), ?_⟩, fun c => ⟨i3 (by omega) (by omega), i3 (by omega) (by omega), ?_⟩⟩
    · rw [if_pos c] at ih
      exact ih
    · rw [if_neg c] at ih
      exact ih
theorem mc_isMet {d : Nat} {h : AbH} {m : Nat} {ad : Nat → Nat} {sc : Nat → Int} {ar : Nat → Nat → Int} {K : Option AbV → AbH → Prop} (hA : mA ad) {f t dd : Int} (hf : tg f) (ht : tg t) (hr : ∀ j, 98 ≤ j → j < 130 → 0 ≤ ar 0 j ∧ ar 0 j ≤ 100) (k1 : wMet (ar 0) f t dd → K (some (vI 1)) (mH h m ad sc ar)) (k0 : ¬ wMet (ar 0) f t dd → K (some (vI 0)) (mH h m ad sc ar)) : Vm (d + 2) m_X10_isMet [vR (some m), vI f, vI t, vI dd] (mH h m ad sc ar) K := by
  refine Vm.intro rfl (Nat.le_of_ble_eq_true rfl) (fun _ => B_X10_isMet_0 ?_)
  refine mc_meetAt hf ht ?_
  have h1 := hf.1
  have h2 := hf.2
  have h3 := ht.1
  have h4 := ht.2
  have e1 : (98 + 2 * (4 * f + t)).toNat = 98 + 2 * (4 * f.toNat + t.toNat) := by omega
  have e2 : (98 + 2 * (4 * f + t) + 1).toNat = 98 + 2 * (4 * f.toNat + t.toNat) + 1 := by omega
  have r1 := hr (98 + 2 * (4 * f.toNat + t.toNat)) (by omega) (by omega)
  simp only [mCV, kI_some, kL_some, kR_some, kV_none, vu_app, mgR_0, mgR_3, mgR_12, mgR_13, mgR_14, mgR_16, mgR_17, mgR_18, mgR_19, mgR_20, mgR_21, mgR_2, mgR_7, mgI_1, mgI_4, mgI_5, mgI_6, mgI_8, mgI_9, mgI_10, mgI_11, mgI_15, mgI_22, mpI_1, mpI_4, mpI_5, mpI_6, mpI_8, mpI_9, mpI_10, mpI_11, mpI_15, mpI_22, mlI_0 hA, mlI_3 hA, mlI_12 hA, mlI_13 hA, mlI_14 hA, mlI_16 hA, mlI_17 hA, mlI_18 hA, mlI_19 hA, mlI_20 hA, mlI_21 hA, msI_0 hA, msI_3 hA, msI_12 hA, msI_13 hA, msI_14 hA, msI_16 hA, msI_17 hA, msI_18 hA, msI_19 hA, msI_20 hA, msI_21 hA, mlZ_2 hA, mlZ_7 hA, msZ_2 hA, msZ_7 hA, kI_some, kL_some, kR_some, kV_none, ne_eq, not_true_eq_false, not_false_eq_true, true_implies, false_implies, implies_true, true_and, and_true, ab_z01, or_true, true_or, reduceCtorEq, Option.some.injEq, Int.reduceEq, Int.reduceNe, Int.reduceLT, Int.reduceLE, Int.reduceNeg, Int.reduceAdd, Int.reduceSub, Int.reduceMul, Nat.reduceEqDiff, Nat.reduceAdd, Nat.reduceMul, Int.reduceToNat, ↓reduceIte, e1, e2]
  refine ⟨by omega, by omega, fun c => k0 (fun z => ?_), fun c => ⟨by omega, by omega, i3 (by omega) (by omega), i3 (by omega) (by omega), by omega, by omega, mc_in (fun c => ?_) (fun c => ?_)⟩⟩
  · exact absurd z.1 (by omega)
  · simp only [kI_some, kL_some, kR_some, kV_none, ne_eq, not_true_eq_false, not_false_eq_true, true_implies, false_implies, implies_true, true_and, and_true, ab_z01, or_true, true_or, reduceCtorEq, Option.some.injEq, Int.reduceEq, Int.reduceNe, Int.reduceLT, Int.reduceLE, Int.reduceNeg, Int.reduceAdd, Int.reduceSub, Int.reduceMul, Nat.reduceEqDiff, Nat.reduceAdd, Nat.reduceMul, Int.reduceToNat, ↓reduceIte]
    exact k1 ⟨by omega, c⟩
  · simp only [kI_some, kL_some, kR_some, kV_none, ne_eq, not_true_eq_false, not_false_eq_true, true_implies, false_implies, implies_true, true_and, and_true, ab_z01, or_true, true_or, reduceCtorEq, Option.some.injEq, Int.reduceEq, Int.reduceNe, Int.reduceLT, Int.reduceLE, Int.reduceNeg, Int.reduceAdd, Int.reduceSub, Int.reduceMul, Nat.reduceEqDiff, Nat.reduceAdd, Nat.reduceMul, Int.reduceToNat, ↓reduceIte]
    exact k0 (fun z => c z.2)
theorem mc_type {d : Nat} {h : AbH} {m : Nat} {ad : Nat → Nat} {sc : Nat → Int} {ar : Nat → Nat → Int} {K : Option AbV → AbH → Prop} (hA : mA ad) {v : Int} (hl : 0 ≤ sc 4 ∧ sc 4 ≤ 200) (k3 : ¬ (0 ≤ v ∧ v ≤ 255) → K (some (vI (-3))) (mH h m ad sc ar)) (k5 : 0 ≤ v ∧ v ≤ 255 → sc 4 = 200 → K (some (vI (-5))) (mH h m ad sc ar)) (k : 0 ≤ v ∧ v ≤ 255 → sc 4 < 200 → K (some (vI (sc 4 + 1))) (mH h m ad (va_up sc 4 (sc 4 + 1)) (va_up ar 3 (va_up (ar 3) (sc 4).toNat v)))) : Vm (d + 2) m_X10_type [vR (some m), vI v] (mH h m ad sc ar) K := by
  refine Vm.intro rfl (Nat.le_of_ble_eq_true rfl) (fun _ => B_X10_type_0 ?_)
  refine mc_in (fun c => ?_) (fun c => ?_) <;> simp only [mCV, kI_some, kL_some, kR_some, kV_none, vu_app, mgR_0, mgR_3, mgR_12, mgR_13, mgR_14, mgR_16, mgR_17, mgR_18, mgR_19, mgR_20, mgR_21, mgR_2, mgR_7, mgI_1, mgI_4, mgI_5, mgI_6, mgI_8, mgI_9, mgI_10, mgI_11, mgI_15, mgI_22, mpI_1, mpI_4, mpI_5, mpI_6, mpI_8, mpI_9, mpI_10, mpI_11, mpI_15, mpI_22, mlI_0 hA, mlI_3 hA, mlI_12 hA, mlI_13 hA, mlI_14 hA, mlI_16 hA, mlI_17 hA, mlI_18 hA, mlI_19 hA, mlI_20 hA, mlI_21 hA, msI_0 hA, msI_3 hA, msI_12 hA, msI_13 hA, msI_14 hA, msI_16 hA, msI_17 hA, msI_18 hA, msI_19 hA, msI_20 hA, msI_21 hA, mlZ_2 hA, mlZ_7 hA, msZ_2 hA, msZ_7 hA, kI_some, kL_some, kR_some, kV_none, ne_eq, not_true_eq_false, not_false_eq_true, true_implies, false_implies, implies_true, true_and, and_true, ab_z01, or_true, true_or, reduceCtorEq, Option.some.injEq, Int.reduceEq, Int.reduceNe, Int.reduceLT, Int.reduceLE, Int.reduceNeg, Int.reduceAdd, Int.reduceSub, Int.reduceMul, Nat.reduceEqDiff, Nat.reduceAdd, Nat.reduceMul, Int.reduceToNat, ↓reduceIte, if_true]
  · exact ⟨fun e => ⟨by omega, by omega, i3 (by omega) (by omega), k c (by omega)⟩, fun e => k5 c (by omega)⟩
  · exact k3 c
theorem mc_erase {d : Nat} {h : AbH} {m : Nat} {ad : Nat → Nat} {sc : Nat → Int} {ar : Nat → Nat → Int} {K : Option AbV → AbH → Prop} (hA : mA ad) (k : K (some (vI (sc 4))) (mH h m ad (va_up sc 4 0) ar)) : Vm (d + 1) m_X10_erase [vR (some m)] (mH h m ad sc ar) K := by
  refine Vm.intro rfl (Nat.le_of_ble_eq_true rfl) (fun _ => B_X10_erase_0 ?_)
  simp only [mCV, kI_some, kL_some, kR_some, kV_none, vu_app, mgR_0, mgR_3, mgR_12, mgR_13, mgR_14, mgR_16, mgR_17, mgR_18, mgR_19, mgR_20, mgR_21, mgR_2, mgR_7, mgI_1, mgI_4, mgI_5, mgI_6, mgI_8, mgI_9, mgI_10, mgI_11, mgI_15, mgI_22, mpI_1, mpI_4, mpI_5, mpI_6, mpI_8, mpI_9, mpI_10, mpI_11, mpI_15, mpI_22, mlI_0 hA, mlI_3 hA, mlI_12 hA, mlI_13 hA, mlI_14 hA, mlI_16 hA, mlI_17 hA, mlI_18 hA, mlI_19 hA, mlI_20 hA, mlI_21 hA, msI_0 hA, msI_3 hA, msI_12 hA, msI_13 hA, msI_14 hA, msI_16 hA, msI_17 hA, msI_18 hA, msI_19 hA, msI_20 hA, msI_21 hA, mlZ_2 hA, mlZ_7 hA, msZ_2 hA, msZ_7 hA, kI_some, kL_some, kR_some, kV_none, ne_eq, not_true_eq_false, not_false_eq_true, true_implies, false_implies, implies_true, true_and, and_true, ab_z01, or_true, true_or, reduceCtorEq, Option.some.injEq, Int.reduceEq, Int.reduceNe, Int.reduceLT, Int.reduceLE, Int.reduceNeg, Int.reduceAdd, Int.reduceSub, Int.reduceMul, Nat.reduceEqDiff, Nat.reduceAdd, Nat.reduceMul, Int.reduceToNat, ↓reduceIte]
  exact k
