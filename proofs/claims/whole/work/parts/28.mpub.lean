/-! the public acts of the model: which error, else the new row -/
def lawE (w : Nat → Int) (t d x y e z : Int) : Option Int := if ¬ (0 ≤ t ∧ t ≤ 3) then some (-2) else if ¬ (1 ≤ d ∧ d ≤ 99 ∧ 0 ≤ x ∧ x ≤ 25 ∧ -1 ≤ y ∧ y ≤ 25 ∧ 0 ≤ e ∧ e ≤ 2 ∧ (e ≤ 0 ∨ (0 ≤ z ∧ z ≤ 25))) then some (-3) else if x = y ∨ hasL w t d (nl w) = true then some (-4) else if w 0 = 16 then some (-5) else none
def meetE (f t a b : Int) : Option Int := if ¬ (0 ≤ f ∧ f ≤ 3 ∧ 0 ≤ t ∧ t ≤ 3 ∧ f ≠ t) then some (-2) else if ¬ (0 ≤ a ∧ a ≤ 99 ∧ a ≤ b ∧ b ≤ 99) then some (-3) else none
def partE (w : Nat → Int) (f t : Int) : Option Int := if ¬ (0 ≤ f ∧ f ≤ 3 ∧ 0 ≤ t ∧ t ≤ 3 ∧ f ≠ t) then some (-2) else if w (98 + 2 * (4 * f.toNat + t.toNat)) = 0 then some (-2) else none
def lendE (w : Nat → Int) (k f t d : Int) : Option Int := if ¬ (0 ≤ k ∧ k < w 1) then some (-2) else if ¬ (0 ≤ f ∧ f ≤ 3 ∧ 0 ≤ t ∧ t ≤ 3 ∧ f ≠ t) then some (-2) else if ¬ (0 ≤ d ∧ d ≤ 99) then some (-3) else if w 1 = 12 then some (-5) else none
/-- the loans behind lend: the word of k, the end l -/
def lndW (R : Nat → Int) (k : Nat) (f t : Int) (l : List Int) : Nat → Int := fun j => if j = 1 then R 1 + 1 else if j = 130 + 22 * no R then f else if j = 130 + 22 * no R + 1 then t else if j = 130 + 22 * no R + 3 then (l.length : Int) else if 130 + 22 * no R + 2 ≤ j ∧ j < 130 + 22 * no R + 12 then R (130 + 22 * k + (j - (130 + 22 * no R))) else if 130 + 22 * no R + 12 ≤ j ∧ j < 130 + 22 * no R + 12 + l.length then l.getD (j - (130 + 22 * no R + 12)) 0 else R j
theorem wV.cg {w w' : Nat → Int} (h : ∀ j, j < 394 → w' j = w j) (hw : wV w) : wV w' := by
  obtain ⟨h1, h2, h3, h4, h5⟩ := hw
  have n0 : nl w' = nl w := by unfold nl; rw [h 0 (by omega)]
  have n1 : no w' = no w := by unfold no; rw [h 1 (by omega)]
  have hn : nl w ≤ 16 := by have := h1.1; unfold nl; omega
  have hm : no w ≤ 12 := by have := h1.2; unfold no; omega
  have hl : ∀ k j, k < 16 → j < 6 → lw w' k j = lw w k j := fun k j hk hj => h _ (by omega)
  have hL : ∀ k j, k < 12 → j < 22 → lo w' k j = lo w k j := fun k j hk hj => h _ (by omega)
  refine ⟨?_, fun k hk => ?_, fun k hk => ?_, fun p hp => ?_, fun k hk => ?_⟩
  · unfold wB
    rw [h 0 (by omega), h 1 (by omega)]
    exact h1
  · rw [n0] at hk
    rw [hl k 0 (by omega) (by decide), hl k 1 (by omega) (by decide), hl k 2 (by omega) (by decide), hl k 3 (by omega) (by decide), hl k 4 (by omega) (by decide), hl k 5 (by omega) (by decide)]
    exact h2 k hk
  · rw [n0] at hk
    rw [hl k 1 (by omega) (by decide), hl (k + 1) 1 (by omega) (by decide), hl k 0 (by omega) (by decide), hl (k + 1) 0 (by omega) (by decide)]
    exact h3 k hk
  · rw [h _ (by omega), h _ (by omega)]
    exact h4 p hp
  · rw [n1] at hk
    obtain ⟨q1, q2, q3, q4, q5, q6, q7⟩ := h5 k hk
    have z2 := hL k 2 (by omega) (by decide)
    have z3 := hL k 3 (by omega) (by decide)
    refine ⟨by rw [hL k 0 (by omega) (by decide)]; exact q1, by rw [hL k 1 (by omega) (by decide)]; exact q2, by rw [hL k 0 (by omega) (by decide), hL k 1 (by omega) (by decide)]; exact q3, by rw [z2]; exact q4, by rw [z3]; exact q5, fun i hi => ?_, fun i hi => ?_⟩
    · rw [z2] at hi
      rw [hL k (4 + i) (by omega) (by omega)]
      exact q6 i hi
    · rw [z3] at hi
      rw [hL k (12 + i) (by omega) (by omega)]
      exact q7 i hi
theorem nl_cg {w w' : Nat → Int} (h : ∀ j, j < 394 → w' j = w j) : nl w' = nl w := by unfold nl; rw [h 0 (by omega)]
theorem no_cg {w w' : Nat → Int} (h : ∀ j, j < 394 → w' j = w j) : no w' = no w := by unfold no; rw [h 1 (by omega)]
theorem hasL_cg {w w' : Nat → Int} {t d : Int} (h : ∀ j, j < 394 → w' j = w j) : ∀ n, n ≤ 16 → hasL w' t d n = hasL w t d n
  | 0, _ => rfl
  | n + 1, hn => by
    unfold hasL
    rw [hasL_cg h n (by omega)]
    unfold lw
    rw [h _ (by omega), h _ (by omega)]
theorem posL_cg {w w' : Nat → Int} {t d : Int} (h : ∀ j, j < 394 → w' j = w j) : ∀ n, n ≤ 16 → posL w' t d n = posL w t d n
  | 0, _ => rfl
  | n + 1, hn => by
    unfold posL
    rw [posL_cg h n (by omega)]
    unfold lw
    rw [h _ (by omega), h _ (by omega)]
set_option maxRecDepth 100000 in
set_option maxHeartbeats 4000000 in
theorem mc_law {d : Nat} {h : AbH} {m : Nat} {ad : Nat → Nat} {sc : Nat → Int} {ar : Nat → Nat → Int} {K : Option AbV → AbH → Prop} (hA : mA ad) {t dd x y e z : Int} {u : Nat} (hw : wV (ar 0)) (hu : sc 1 = (u : Int)) (hu8 : u ≤ 8) (kE : ∀ r, lawE (ar 0) t dd x y e z = some r → K (some (vI r)) (mH h m ad sc ar)) (kk : lawE (ar 0) t dd x y e z = none → K (some (vI (posL (ar 0) t dd (nl (ar 0)) : Int))) (mH h m ad (va_up sc 1 (kpU u : Int)) (va_up ar 0 (insW (kpR (ar 0) u) (nl (ar 0)) (posL (ar 0) t dd (nl (ar 0))) (lfs t dd x y e z))))) : Vm (d + 4) m_X10_law [vR (some m), vI t, vI dd, vI x, vI y, vI e, vI z] (mH h m ad sc ar) K := by
  obtain ⟨n1, n2⟩ := hw.nlw
  refine Vm.intro rfl (Nat.le_of_ble_eq_true rfl) (fun _ => B_X10_law_0 ?_)
  have bad2 : ¬ (0 ≤ t ∧ t ≤ 3) → K (some (vI (-2))) (mH h m ad sc ar) := fun c => kE (-2) (if_pos c)
  have bad3 : (0 ≤ t ∧ t ≤ 3) → ¬ (1 ≤ dd ∧ dd ≤ 99 ∧ 0 ≤ x ∧ x ≤ 25 ∧ -1 ≤ y ∧ y ≤ 25 ∧ 0 ≤ e ∧ e ≤ 2 ∧ (e ≤ 0 ∨ (0 ≤ z ∧ z ≤ 25))) → K (some (vI (-3))) (mH h m ad sc ar) := fun c0 c => kE (-3) (by unfold lawE; rw [if_neg (fun q => q c0), if_pos c])
  refine mc_isTongue (fun c => ?_) (fun c => ?_) <;> simp only [kI_some, kL_some, kR_some, kV_none, ne_eq, not_true_eq_false, not_false_eq_true, true_implies, false_implies, implies_true, true_and, and_true, ab_z01, or_true, true_or, reduceCtorEq, Option.some.injEq, Int.reduceEq, Int.reduceNe, Int.reduceLT, Int.reduceLE, Int.reduceNeg, Int.reduceAdd, Int.reduceSub, Int.reduceMul, Nat.reduceEqDiff, Nat.reduceAdd, Nat.reduceMul, Int.reduceToNat, ↓reduceIte]
  · have c0 : 0 ≤ t ∧ t ≤ 3 := c
    refine mc_in (fun c1 => ?_) (fun c1 => ?_) <;> simp only [kI_some, kL_some, kR_some, kV_none, ne_eq, not_true_eq_false, not_false_eq_true, true_implies, false_implies, implies_true, true_and, and_true, ab_z01, or_true, true_or, reduceCtorEq, Option.some.injEq, Int.reduceEq, Int.reduceNe, Int.reduceLT, Int.reduceLE, Int.reduceNeg, Int.reduceAdd, Int.reduceSub, Int.reduceMul, Nat.reduceEqDiff, Nat.reduceAdd, Nat.reduceMul, Int.reduceToNat, ↓reduceIte]
    · refine mc_in (fun c2 => ?_) (fun c2 => ?_) <;> simp only [kI_some, kL_some, kR_some, kV_none, ne_eq, not_true_eq_false, not_false_eq_true, true_implies, false_implies, implies_true, true_and, and_true, ab_z01, or_true, true_or, reduceCtorEq, Option.some.injEq, Int.reduceEq, Int.reduceNe, Int.reduceLT, Int.reduceLE, Int.reduceNeg, Int.reduceAdd, Int.reduceSub, Int.reduceMul, Nat.reduceEqDiff, Nat.reduceAdd, Nat.reduceMul, Int.reduceToNat, ↓reduceIte]
      · refine mc_in (fun c3 => ?_) (fun c3 => ?_) <;> simp only [kI_some, kL_some, kR_some, kV_none, ne_eq, not_true_eq_false, not_false_eq_true, true_implies, false_implies, implies_true, true_and, and_true, ab_z01, or_true, true_or, reduceCtorEq, Option.some.injEq, Int.reduceEq, Int.reduceNe, Int.reduceLT, Int.reduceLE, Int.reduceNeg, Int.reduceAdd, Int.reduceSub, Int.reduceMul, Nat.reduceEqDiff, Nat.reduceAdd, Nat.reduceMul, Int.reduceToNat, ↓reduceIte]
        · refine mc_in (fun c4 => ?_) (fun c4 => ?_) <;> simp only [kI_some, kL_some, kR_some, kV_none, ne_eq, not_true_eq_false, not_false_eq_true, true_implies, false_implies, implies_true, true_and, and_true, ab_z01, or_true, true_or, reduceCtorEq, Option.some.injEq, Int.reduceEq, Int.reduceNe, Int.reduceLT, Int.reduceLE, Int.reduceNeg, Int.reduceAdd, Int.reduceSub, Int.reduceMul, Nat.reduceEqDiff, Nat.reduceAdd, Nat.reduceMul, Int.reduceToNat, ↓reduceIte]
          · have F83 : (e ≤ 0 ∨ (0 ≤ z ∧ z ≤ 25)) → Vx (d + 4) m_X10_law 0 0 83 [some (vR (some m)), some (vI t), some (vI dd), some (vI x), some (vI y), some (vI e), some (vI z)] [] (mH h m ad sc ar) K := by
              intro c5
              have call : 1 ≤ dd ∧ dd ≤ 99 ∧ 0 ≤ x ∧ x ≤ 25 ∧ -1 ≤ y ∧ y ≤ 25 ∧ 0 ≤ e ∧ e ≤ 2 ∧ (e ≤ 0 ∨ (0 ≤ z ∧ z ≤ 25)) := by omega
              have hE : lawE (ar 0) t dd x y e z = if x = y ∨ hasL (ar 0) t dd (nl (ar 0)) = true then some (-4) else if ar 0 0 = 16 then some (-5) else none := by
                unfold lawE
                rw [if_neg (fun q => q c0), if_neg (fun q => q call)]
              refine B_X10_law_83 ⟨fun c6 => kE (-4) (by rw [hE, if_pos (Or.inl c6)]), fun c6 => ?_⟩
              simp only [mCV]
              refine mc_hasLaw hA hw ?_
              cases hB : hasL (ar 0) t dd (nl (ar 0)) with
              | true =>
                simp only [mCV, kI_some, kL_some, kR_some, kV_none, vu_app, mgR_0, mgR_3, mgR_12, mgR_13, mgR_14, mgR_16, mgR_17, mgR_18, mgR_19, mgR_20, mgR_21, mgR_2, mgR_7, mgI_1, mgI_4, mgI_5, mgI_6, mgI_8, mgI_9, mgI_10, mgI_11, mgI_15, mgI_22, mpI_1, mpI_4, mpI_5, mpI_6, mpI_8, mpI_9, mpI_10, mpI_11, mpI_15, mpI_22, mlI_0 hA, mlI_3 hA, mlI_12 hA, mlI_13 hA, mlI_14 hA, mlI_16 hA, mlI_17 hA, mlI_18 hA, mlI_19 hA, mlI_20 hA, mlI_21 hA, msI_0 hA, msI_3 hA, msI_12 hA, msI_13 hA, msI_14 hA, msI_16 hA, msI_17 hA, msI_18 hA, msI_19 hA, msI_20 hA, msI_21 hA, mlZ_2 hA, mlZ_7 hA, msZ_2 hA, msZ_7 hA, kI_some, kL_some, kR_some, kV_none, ne_eq, not_true_eq_false, not_false_eq_true, true_implies, false_implies, implies_true, true_and, and_true, ab_z01, or_true, true_or, reduceCtorEq, Option.some.injEq, Int.reduceEq, Int.reduceNe, Int.reduceLT, Int.reduceLE, Int.reduceNeg, Int.reduceAdd, Int.reduceSub, Int.reduceMul, Nat.reduceEqDiff, Nat.reduceAdd, Nat.reduceMul, Int.reduceToNat, ↓reduceIte, b2i]
                exact kE (-4) (by rw [hE, if_pos (Or.inr hB)])
              | false =>
                have h4 : ¬ (x = y ∨ hasL (ar 0) t dd (nl (ar 0)) = true) := by rw [hB]; simp [c6]
                simp only [mCV, kI_some, kL_some, kR_some, kV_none, vu_app, mgR_0, mgR_3, mgR_12, mgR_13, mgR_14, mgR_16, mgR_17, mgR_18, mgR_19, mgR_20, mgR_21, mgR_2, mgR_7, mgI_1, mgI_4, mgI_5, mgI_6, mgI_8, mgI_9, mgI_10, mgI_11, mgI_15, mgI_22, mpI_1, mpI_4, mpI_5, mpI_6, mpI_8, mpI_9, mpI_10, mpI_11, mpI_15, mpI_22, mlI_0 hA, mlI_3 hA, mlI_12 hA, mlI_13 hA, mlI_14 hA, mlI_16 hA, mlI_17 hA, mlI_18 hA, mlI_19 hA, mlI_20 hA, mlI_21 hA, msI_0 hA, msI_3 hA, msI_12 hA, msI_13 hA, msI_14 hA, msI_16 hA, msI_17 hA, msI_18 hA, msI_19 hA, msI_20 hA, msI_21 hA, mlZ_2 hA, mlZ_7 hA, msZ_2 hA, msZ_7 hA, kI_some, kL_some, kR_some, kV_none, ne_eq, not_true_eq_false, not_false_eq_true, true_implies, false_implies, implies_true, true_and, and_true, ab_z01, or_true, true_or, reduceCtorEq, Option.some.injEq, Int.reduceEq, Int.reduceNe, Int.reduceLT, Int.reduceLE, Int.reduceNeg, Int.reduceAdd, Int.reduceSub, Int.reduceMul, Nat.reduceEqDiff, Nat.reduceAdd, Nat.reduceMul, Int.reduceToNat, ↓reduceIte, b2i, Bool.false_eq_true]
                refine ⟨fun c7 => mc_keepPast hA hu hu8 ?_, fun c7 => kE (-5) (by rw [hE, if_neg h4, if_pos (by simpa using c7)])⟩
                simp only [mCV, kI_some, kL_some, kR_some, kV_none, vu_app, mgR_0, mgR_3, mgR_12, mgR_13, mgR_14, mgR_16, mgR_17, mgR_18, mgR_19, mgR_20, mgR_21, mgR_2, mgR_7, mgI_1, mgI_4, mgI_5, mgI_6, mgI_8, mgI_9, mgI_10, mgI_11, mgI_15, mgI_22, mpI_1, mpI_4, mpI_5, mpI_6, mpI_8, mpI_9, mpI_10, mpI_11, mpI_15, mpI_22, mlI_0 hA, mlI_3 hA, mlI_12 hA, mlI_13 hA, mlI_14 hA, mlI_16 hA, mlI_17 hA, mlI_18 hA, mlI_19 hA, mlI_20 hA, mlI_21 hA, msI_0 hA, msI_3 hA, msI_12 hA, msI_13 hA, msI_14 hA, msI_16 hA, msI_17 hA, msI_18 hA, msI_19 hA, msI_20 hA, msI_21 hA, mlZ_2 hA, mlZ_7 hA, msZ_2 hA, msZ_7 hA, kI_some, kL_some, kR_some, kV_none, ne_eq, not_true_eq_false, not_false_eq_true, true_implies, false_implies, implies_true, true_and, and_true, ab_z01, or_true, true_or, reduceCtorEq, Option.some.injEq, Int.reduceEq, Int.reduceNe, Int.reduceLT, Int.reduceLE, Int.reduceNeg, Int.reduceAdd, Int.reduceSub, Int.reduceMul, Nat.reduceEqDiff, Nat.reduceAdd, Nat.reduceMul, Int.reduceToNat, ↓reduceIte]
                have e0 : ∀ j, j < 394 → kpR (ar 0) u j = ar 0 j := fun j hj => kpR_w hj
                refine mc_puts hA (by rw [vu_same]; exact (hw.cg e0).1) (by rw [vu_same, nl_cg e0]; omega) ?_
                simp only [mCV, kI_some, kL_some, kR_some, kV_none, vu_app, mgR_0, mgR_3, mgR_12, mgR_13, mgR_14, mgR_16, mgR_17, mgR_18, mgR_19, mgR_20, mgR_21, mgR_2, mgR_7, mgI_1, mgI_4, mgI_5, mgI_6, mgI_8, mgI_9, mgI_10, mgI_11, mgI_15, mgI_22, mpI_1, mpI_4, mpI_5, mpI_6, mpI_8, mpI_9, mpI_10, mpI_11, mpI_15, mpI_22, mlI_0 hA, mlI_3 hA, mlI_12 hA, mlI_13 hA, mlI_14 hA, mlI_16 hA, mlI_17 hA, mlI_18 hA, mlI_19 hA, mlI_20 hA, mlI_21 hA, msI_0 hA, msI_3 hA, msI_12 hA, msI_13 hA, msI_14 hA, msI_16 hA, msI_17 hA, msI_18 hA, msI_19 hA, msI_20 hA, msI_21 hA, mlZ_2 hA, mlZ_7 hA, msZ_2 hA, msZ_7 hA, kI_some, kL_some, kR_some, kV_none, ne_eq, not_true_eq_false, not_false_eq_true, true_implies, false_implies, implies_true, true_and, and_true, ab_z01, or_true, true_or, reduceCtorEq, Option.some.injEq, Int.reduceEq, Int.reduceNe, Int.reduceLT, Int.reduceLE, Int.reduceNeg, Int.reduceAdd, Int.reduceSub, Int.reduceMul, Nat.reduceEqDiff, Nat.reduceAdd, Nat.reduceMul, Int.reduceToNat, ↓reduceIte, vu_up]
                rw [nl_cg e0, posL_cg e0 _ n2]
                exact kk (by rw [hE, if_neg h4, if_neg c7])
            refine ⟨fun c5 => F83 (Or.inl c5), fun c5 => mc_in (fun c6 => ?_) (fun c6 => ?_)⟩ <;> simp only [kI_some, kL_some, kR_some, kV_none, ne_eq, not_true_eq_false, not_false_eq_true, true_implies, false_implies, implies_true, true_and, and_true, ab_z01, or_true, true_or, reduceCtorEq, Option.some.injEq, Int.reduceEq, Int.reduceNe, Int.reduceLT, Int.reduceLE, Int.reduceNeg, Int.reduceAdd, Int.reduceSub, Int.reduceMul, Nat.reduceEqDiff, Nat.reduceAdd, Nat.reduceMul, Int.reduceToNat, ↓reduceIte]
            · exact F83 (Or.inr c6)
            · exact bad3 c0 (by omega)
          · exact bad3 c0 (by omega)
        · exact bad3 c0 (by omega)
      · exact bad3 c0 (by omega)
    · exact bad3 c0 (by omega)
  · exact bad2 c
set_option maxRecDepth 100000 in
set_option maxHeartbeats 4000000 in
theorem mc_repeal {d : Nat} {h : AbH} {m : Nat} {ad : Nat → Nat} {sc : Nat → Int} {ar : Nat → Nat → Int} {K : Option AbV → AbH → Prop} (hA : mA ad) {v : Int} {u : Nat} (hw : wV (ar 0)) (hu : sc 1 = (u : Int)) (hu8 : u ≤ 8) (kE : ¬ (0 ≤ v ∧ v < ar 0 0) → K (some (vI (-2))) (mH h m ad sc ar)) (kk : (0 ≤ v ∧ v < ar 0 0) → K (some (vI (ar 0 0 - 1))) (mH h m ad (va_up sc 1 (kpU u : Int)) (va_up ar 0 (delW (kpR (ar 0) u) v.toNat)))) : Vm (d + 4) m_X10_repeal [vR (some m), vI v] (mH h m ad sc ar) K := by
  have hb := hw.1.1
  refine Vm.intro rfl (Nat.le_of_ble_eq_true rfl) (fun _ => B_X10_repeal_0 ?_)
  simp only [mCV]
  refine mc_isLaw hA hw.1 (fun c => ?_) (fun c => ?_) <;> simp only [kI_some, kL_some, kR_some, kV_none, ne_eq, not_true_eq_false, not_false_eq_true, true_implies, false_implies, implies_true, true_and, and_true, ab_z01, or_true, true_or, reduceCtorEq, Option.some.injEq, Int.reduceEq, Int.reduceNe, Int.reduceLT, Int.reduceLE, Int.reduceNeg, Int.reduceAdd, Int.reduceSub, Int.reduceMul, Nat.reduceEqDiff, Nat.reduceAdd, Nat.reduceMul, Int.reduceToNat, ↓reduceIte]
  · obtain ⟨k, rfl⟩ := Int.eq_ofNat_of_zero_le c.1
    simp only [mCV]
    refine mc_keepPast hA hu hu8 ?_
    simp only [mCV, kI_some, kL_some, kR_some, kV_none, vu_app, mgR_0, mgR_3, mgR_12, mgR_13, mgR_14, mgR_16, mgR_17, mgR_18, mgR_19, mgR_20, mgR_21, mgR_2, mgR_7, mgI_1, mgI_4, mgI_5, mgI_6, mgI_8, mgI_9, mgI_10, mgI_11, mgI_15, mgI_22, mpI_1, mpI_4, mpI_5, mpI_6, mpI_8, mpI_9, mpI_10, mpI_11, mpI_15, mpI_22, mlI_0 hA, mlI_3 hA, mlI_12 hA, mlI_13 hA, mlI_14 hA, mlI_16 hA, mlI_17 hA, mlI_18 hA, mlI_19 hA, mlI_20 hA, mlI_21 hA, msI_0 hA, msI_3 hA, msI_12 hA, msI_13 hA, msI_14 hA, msI_16 hA, msI_17 hA, msI_18 hA, msI_19 hA, msI_20 hA, msI_21 hA, mlZ_2 hA, mlZ_7 hA, msZ_2 hA, msZ_7 hA, kI_some, kL_some, kR_some, kV_none, ne_eq, not_true_eq_false, not_false_eq_true, true_implies, false_implies, implies_true, true_and, and_true, ab_z01, or_true, true_or, reduceCtorEq, Option.some.injEq, Int.reduceEq, Int.reduceNe, Int.reduceLT, Int.reduceLE, Int.reduceNeg, Int.reduceAdd, Int.reduceSub, Int.reduceMul, Nat.reduceEqDiff, Nat.reduceAdd, Nat.reduceMul, Int.reduceToNat, ↓reduceIte, vu_up]
    have r0 : kpR (ar 0) u 0 = ar 0 0 := kpR_w (by decide)
    obtain ⟨R, hR⟩ : ∃ R, R = kpR (ar 0) u := ⟨_, rfl⟩
    rw [← hR] at kk r0 ⊢
    obtain ⟨n, hn⟩ := Int.eq_ofNat_of_zero_le (show 0 ≤ ar 0 0 - 1 by omega)
    rw [r0]
    repeat (first | refine And.intro (by omega) ?_ | refine And.intro (i3 (by omega) (by omega)) ?_)
    have fin := kk c
    rw [Int.toNat_natCast] at fin
    have P := lp_up (P := fun i => k ≤ n → Vx (d + 4) m_X10_repeal 0 0 32 [some (vR (some m)), some (vI (k : Int)), some (vI ((2 + 6 * k + i : Nat) : Int))] [] (mH h m ad (va_up sc 1 (kpU u : Int)) (va_up ar 0 (fun j => if j = 0 then ar 0 0 - 1 else if 2 + 6 * k ≤ j ∧ j < 2 + 6 * k + i then R (j + 6) else R j))) K) (n := 6 * (n - k)) ?_ ?_ 0 (by omega) (by omega)
    · have e : (fun j => if j = 0 then ar 0 0 - 1 else if 2 + 6 * k ≤ j ∧ j < 2 + 6 * k + 0 then R (j + 6) else R j) = va_up R 0 (ar 0 0 - 1) := by
        funext j
        rw [vu_app]
        by_cases q : j = 0
        · rw [if_pos q, if_pos q]
        · rw [if_neg q, if_neg q, if_neg (by omega)]
      rw [e] at P
      rw [show 2 + 6 * (k : Int) = ((2 + 6 * k + 0 : Nat) : Int) by omega]
      exact P
    · intro hkn
      refine B_X10_repeal_32 ?_
      simp only [mCV, kI_some, kL_some, kR_some, kV_none, vu_app, mgR_0, mgR_3, mgR_12, mgR_13, mgR_14, mgR_16, mgR_17, mgR_18, mgR_19, mgR_20, mgR_21, mgR_2, mgR_7, mgI_1, mgI_4, mgI_5, mgI_6, mgI_8, mgI_9, mgI_10, mgI_11, mgI_15, mgI_22, mpI_1, mpI_4, mpI_5, mpI_6, mpI_8, mpI_9, mpI_10, mpI_11, mpI_15, mpI_22, mlI_0 hA, mlI_3 hA, mlI_12 hA, mlI_13 hA, mlI_14 hA, mlI_16 hA, mlI_17 hA, mlI_18 hA, mlI_19 hA, mlI_20 hA, mlI_21 hA, msI_0 hA, msI_3 hA, msI_12 hA, msI_13 hA, msI_14 hA, msI_16 hA, msI_17 hA, msI_18 hA, msI_19 hA, msI_20 hA, msI_21 hA, mlZ_2 hA, mlZ_7 hA, msZ_2 hA, msZ_7 hA, kI_some, kL_some, kR_some, kV_none, ne_eq, not_true_eq_false, not_false_eq_true, true_implies, false_implies, implies_true, true_and, and_true, ab_z01, or_true, true_or, reduceCtorEq, Option.some.injEq, Int.reduceEq, Int.reduceNe, Int.reduceLT, Int.reduceLE, Int.reduceNeg, Int.reduceAdd, Int.reduceSub, Int.reduceMul, Nat.reduceEqDiff, Nat.reduceAdd, Nat.reduceMul, Int.reduceToNat, ↓reduceIte, hn]
      repeat (first | refine And.intro (by omega) ?_ | refine And.intro (i3 (by omega) (by omega)) ?_)
      refine ⟨fun _ => ?_, fun c2 => absurd (by omega) c2⟩
      have e : (fun j => if j = 0 then ((n : Nat) : Int) else if 2 + 6 * k ≤ j ∧ j < 2 + 6 * k + 6 * (n - k) then R (j + 6) else R j) = delW R k := by
        funext j
        show _ = if j = 0 then R 0 - 1 else if 2 + 6 * k ≤ j ∧ (j : Int) < 2 + 6 * (R 0 - 1) then R (j + 6) else R j
        rw [r0, hn]
        by_cases q : j = 0
        · rw [if_pos q, if_pos q]
        · rw [if_neg q, if_neg q]
          by_cases q2 : 2 + 6 * k ≤ j ∧ j < 2 + 6 * k + 6 * (n - k)
          · rw [if_pos q2, if_pos (by omega)]
          · rw [if_neg q2, if_neg (by omega)]
      rw [e]
      rw [hn] at fin
      exact fin
    · intro i hi ih hkn
      refine B_X10_repeal_32 ?_
      simp only [mCV, kI_some, kL_some, kR_some, kV_none, vu_app, mgR_0, mgR_3, mgR_12, mgR_13, mgR_14, mgR_16, mgR_17, mgR_18, mgR_19, mgR_20, mgR_21, mgR_2, mgR_7, mgI_1, mgI_4, mgI_5, mgI_6, mgI_8, mgI_9, mgI_10, mgI_11, mgI_15, mgI_22, mpI_1, mpI_4, mpI_5, mpI_6, mpI_8, mpI_9, mpI_10, mpI_11, mpI_15, mpI_22, mlI_0 hA, mlI_3 hA, mlI_12 hA, mlI_13 hA, mlI_14 hA, mlI_16 hA, mlI_17 hA, mlI_18 hA, mlI_19 hA, mlI_20 hA, mlI_21 hA, msI_0 hA, msI_3 hA, msI_12 hA, msI_13 hA, msI_14 hA, msI_16 hA, msI_17 hA, msI_18 hA, msI_19 hA, msI_20 hA, msI_21 hA, mlZ_2 hA, mlZ_7 hA, msZ_2 hA, msZ_7 hA, kI_some, kL_some, kR_some, kV_none, ne_eq, not_true_eq_false, not_false_eq_true, true_implies, false_implies, implies_true, true_and, and_true, ab_z01, or_true, true_or, reduceCtorEq, Option.some.injEq, Int.reduceEq, Int.reduceNe, Int.reduceLT, Int.reduceLE, Int.reduceNeg, Int.reduceAdd, Int.reduceSub, Int.reduceMul, Nat.reduceEqDiff, Nat.reduceAdd, Nat.reduceMul, Int.reduceToNat, ↓reduceIte, hn]
      repeat (first | refine And.intro (by omega) ?_ | refine And.intro (i3 (by omega) (by omega)) ?_)
      first | refine ⟨fun c2 => absurd c2 (by omega), fun _ => ?_⟩ | refine fun _ => ?_
      repeat (first | refine And.intro (by omega) ?_ | refine And.intro (i3 (by omega) (by omega)) ?_)
      rw [show (((2 + 6 * k + i : Nat) : Int) + 6).toNat = 2 + 6 * k + i + 6 by omega, Int.toNat_natCast, vu_up, if_neg (by omega), if_neg (by omega)]
      have e : va_up (fun j => if j = 0 then ((n : Nat) : Int) else if 2 + 6 * k ≤ j ∧ j < 2 + 6 * k + i then R (j + 6) else R j) (2 + 6 * k + i) (R (2 + 6 * k + i + 6)) = (fun j => if j = 0 then ((n : Nat) : Int) else if 2 + 6 * k ≤ j ∧ j < 2 + 6 * k + (i + 1) then R (j + 6) else R j) := by
        funext j
        rw [vu_app]
        by_cases q : j = 2 + 6 * k + i
        · subst q
          rw [if_pos rfl, if_neg (by omega), if_pos (by omega)]
        · rw [if_neg q]
          by_cases q0 : j = 0
          · rw [if_pos q0, if_pos q0]
          · rw [if_neg q0, if_neg q0]
            by_cases q2 : 2 + 6 * k ≤ j ∧ j < 2 + 6 * k + i
            · rw [if_pos q2, if_pos (by omega)]
            · rw [if_neg q2, if_neg (by omega)]
      rw [e]
      have ih2 := ih hkn
      rw [hn] at ih2
      rw [show ((2 + 6 * k + i : Nat) : Int) + 1 = ((2 + 6 * k + (i + 1) : Nat) : Int) by omega]
      exact ih2
  · exact kE c
set_option maxRecDepth 100000 in
set_option maxHeartbeats 4000000 in
theorem mc_drop {d : Nat} {h : AbH} {m : Nat} {ad : Nat → Nat} {sc : Nat → Int} {ar : Nat → Nat → Int} {K : Option AbV → AbH → Prop} (hA : mA ad) {v : Int} {u : Nat} (hw : wV (ar 0)) (hu : sc 1 = (u : Int)) (hu8 : u ≤ 8) (kE : ¬ (0 ≤ v ∧ v < ar 0 1) → K (some (vI (-2))) (mH h m ad sc ar)) (kk : (0 ≤ v ∧ v < ar 0 1) → K (some (vI (ar 0 1 - 1))) (mH h m ad (va_up sc 1 (kpU u : Int)) (va_up ar 0 (delO (kpR (ar 0) u) v.toNat)))) : Vm (d + 4) m_X10_drop [vR (some m), vI v] (mH h m ad sc ar) K := by
  have hb := hw.1.2
  refine Vm.intro rfl (Nat.le_of_ble_eq_true rfl) (fun _ => B_X10_drop_0 ?_)
  simp only [mCV]
  refine mc_isLoan hA hw.1 (fun c => ?_) (fun c => ?_) <;> simp only [kI_some, kL_some, kR_some, kV_none, ne_eq, not_true_eq_false, not_false_eq_true, true_implies, false_implies, implies_true, true_and, and_true, ab_z01, or_true, true_or, reduceCtorEq, Option.some.injEq, Int.reduceEq, Int.reduceNe, Int.reduceLT, Int.reduceLE, Int.reduceNeg, Int.reduceAdd, Int.reduceSub, Int.reduceMul, Nat.reduceEqDiff, Nat.reduceAdd, Nat.reduceMul, Int.reduceToNat, ↓reduceIte]
  · obtain ⟨k, rfl⟩ := Int.eq_ofNat_of_zero_le c.1
    simp only [mCV]
    refine mc_keepPast hA hu hu8 ?_
    simp only [mCV, kI_some, kL_some, kR_some, kV_none, vu_app, mgR_0, mgR_3, mgR_12, mgR_13, mgR_14, mgR_16, mgR_17, mgR_18, mgR_19, mgR_20, mgR_21, mgR_2, mgR_7, mgI_1, mgI_4, mgI_5, mgI_6, mgI_8, mgI_9, mgI_10, mgI_11, mgI_15, mgI_22, mpI_1, mpI_4, mpI_5, mpI_6, mpI_8, mpI_9, mpI_10, mpI_11, mpI_15, mpI_22, mlI_0 hA, mlI_3 hA, mlI_12 hA, mlI_13 hA, mlI_14 hA, mlI_16 hA, mlI_17 hA, mlI_18 hA, mlI_19 hA, mlI_20 hA, mlI_21 hA, msI_0 hA, msI_3 hA, msI_12 hA, msI_13 hA, msI_14 hA, msI_16 hA, msI_17 hA, msI_18 hA, msI_19 hA, msI_20 hA, msI_21 hA, mlZ_2 hA, mlZ_7 hA, msZ_2 hA, msZ_7 hA, kI_some, kL_some, kR_some, kV_none, ne_eq, not_true_eq_false, not_false_eq_true, true_implies, false_implies, implies_true, true_and, and_true, ab_z01, or_true, true_or, reduceCtorEq, Option.some.injEq, Int.reduceEq, Int.reduceNe, Int.reduceLT, Int.reduceLE, Int.reduceNeg, Int.reduceAdd, Int.reduceSub, Int.reduceMul, Nat.reduceEqDiff, Nat.reduceAdd, Nat.reduceMul, Int.reduceToNat, ↓reduceIte, vu_up]
    have r0 : kpR (ar 0) u 1 = ar 0 1 := kpR_w (by decide)
    obtain ⟨R, hR⟩ : ∃ R, R = kpR (ar 0) u := ⟨_, rfl⟩
    rw [← hR] at kk r0 ⊢
    obtain ⟨n, hn⟩ := Int.eq_ofNat_of_zero_le (show 0 ≤ ar 0 1 - 1 by omega)
    rw [r0]
    repeat (first | refine And.intro (by omega) ?_ | refine And.intro (i3 (by omega) (by omega)) ?_)
    refine mc_loanAt (by omega) ?_
    simp only [kI_some, kL_some, kR_some, kV_none, ne_eq, not_true_eq_false, not_false_eq_true, true_implies, false_implies, implies_true, true_and, and_true, ab_z01, or_true, true_or, reduceCtorEq, Option.some.injEq, Int.reduceEq, Int.reduceNe, Int.reduceLT, Int.reduceLE, Int.reduceNeg, Int.reduceAdd, Int.reduceSub, Int.reduceMul, Nat.reduceEqDiff, Nat.reduceAdd, Nat.reduceMul, Int.reduceToNat, ↓reduceIte]
    have fin := kk c
    rw [Int.toNat_natCast] at fin
    have P := lp_up (P := fun i => k ≤ n → Vx (d + 4) m_X10_drop 0 0 30 [some (vR (some m)), some (vI (k : Int)), some (vI ((130 + 22 * k + i : Nat) : Int))] [] (mH h m ad (va_up sc 1 (kpU u : Int)) (va_up ar 0 (fun j => if j = 1 then ar 0 1 - 1 else if 130 + 22 * k ≤ j ∧ j < 130 + 22 * k + i then R (j + 22) else R j))) K) (n := 22 * (n - k)) ?_ ?_ 0 (by omega) (by omega)
    · have e : (fun j => if j = 1 then ar 0 1 - 1 else if 130 + 22 * k ≤ j ∧ j < 130 + 22 * k + 0 then R (j + 22) else R j) = va_up R 1 (ar 0 1 - 1) := by
        funext j
        rw [vu_app]
        by_cases q : j = 1
        · rw [if_pos q, if_pos q]
        · rw [if_neg q, if_neg q, if_neg (by omega)]
      rw [e] at P
      rw [show 130 + 22 * (k : Int) = ((130 + 22 * k + 0 : Nat) : Int) by omega]
      exact P
    · intro hkn
      refine B_X10_drop_30 ?_
      simp only [mCV, kI_some, kL_some, kR_some, kV_none, vu_app, mgR_0, mgR_3, mgR_12, mgR_13, mgR_14, mgR_16, mgR_17, mgR_18, mgR_19, mgR_20, mgR_21, mgR_2, mgR_7, mgI_1, mgI_4, mgI_5, mgI_6, mgI_8, mgI_9, mgI_10, mgI_11, mgI_15, mgI_22, mpI_1, mpI_4, mpI_5, mpI_6, mpI_8, mpI_9, mpI_10, mpI_11, mpI_15, mpI_22, mlI_0 hA, mlI_3 hA, mlI_12 hA, mlI_13 hA, mlI_14 hA, mlI_16 hA, mlI_17 hA, mlI_18 hA, mlI_19 hA, mlI_20 hA, mlI_21 hA, msI_0 hA, msI_3 hA, msI_12 hA, msI_13 hA, msI_14 hA, msI_16 hA, msI_17 hA, msI_18 hA, msI_19 hA, msI_20 hA, msI_21 hA, mlZ_2 hA, mlZ_7 hA, msZ_2 hA, msZ_7 hA, kI_some, kL_some, kR_some, kV_none, ne_eq, not_true_eq_false, not_false_eq_true, true_implies, false_implies, implies_true, true_and, and_true, ab_z01, or_true, true_or, reduceCtorEq, Option.some.injEq, Int.reduceEq, Int.reduceNe, Int.reduceLT, Int.reduceLE, Int.reduceNeg, Int.reduceAdd, Int.reduceSub, Int.reduceMul, Nat.reduceEqDiff, Nat.reduceAdd, Nat.reduceMul, Int.reduceToNat, ↓reduceIte, hn]
      refine mc_loanAt (by omega) ?_
      simp only [mCV, kI_some, kL_some, kR_some, kV_none, vu_app, mgR_0, mgR_3, mgR_12, mgR_13, mgR_14, mgR_16, mgR_17, mgR_18, mgR_19, mgR_20, mgR_21, mgR_2, mgR_7, mgI_1, mgI_4, mgI_5, mgI_6, mgI_8, mgI_9, mgI_10, mgI_11, mgI_15, mgI_22, mpI_1, mpI_4, mpI_5, mpI_6, mpI_8, mpI_9, mpI_10, mpI_11, mpI_15, mpI_22, mlI_0 hA, mlI_3 hA, mlI_12 hA, mlI_13 hA, mlI_14 hA, mlI_16 hA, mlI_17 hA, mlI_18 hA, mlI_19 hA, mlI_20 hA, mlI_21 hA, msI_0 hA, msI_3 hA, msI_12 hA, msI_13 hA, msI_14 hA, msI_16 hA, msI_17 hA, msI_18 hA, msI_19 hA, msI_20 hA, msI_21 hA, mlZ_2 hA, mlZ_7 hA, msZ_2 hA, msZ_7 hA, kI_some, kL_some, kR_some, kV_none, ne_eq, not_true_eq_false, not_false_eq_true, true_implies, false_implies, implies_true, true_and, and_true, ab_z01, or_true, true_or, reduceCtorEq, Option.some.injEq, Int.reduceEq, Int.reduceNe, Int.reduceLT, Int.reduceLE, Int.reduceNeg, Int.reduceAdd, Int.reduceSub, Int.reduceMul, Nat.reduceEqDiff, Nat.reduceAdd, Nat.reduceMul, Int.reduceToNat, ↓reduceIte]
      refine ⟨fun _ => ?_, fun c2 => absurd (by omega) c2⟩
      have e : (fun j => if j = 1 then ((n : Nat) : Int) else if 130 + 22 * k ≤ j ∧ j < 130 + 22 * k + 22 * (n - k) then R (j + 22) else R j) = delO R k := by
        funext j
        show _ = if j = 1 then R 1 - 1 else if 130 + 22 * k ≤ j ∧ (j : Int) < 130 + 22 * (R 1 - 1) then R (j + 22) else R j
        rw [r0, hn]
        by_cases q : j = 1
        · rw [if_pos q, if_pos q]
        · rw [if_neg q, if_neg q]
          by_cases q2 : 130 + 22 * k ≤ j ∧ j < 130 + 22 * k + 22 * (n - k)
          · rw [if_pos q2, if_pos (by omega)]
          · rw [if_neg q2, if_neg (by omega)]
      rw [e]
      rw [hn] at fin
      exact fin
    · intro i hi ih hkn
      refine B_X10_drop_30 ?_
      simp only [mCV, kI_some, kL_some, kR_some, kV_none, vu_app, mgR_0, mgR_3, mgR_12, mgR_13, mgR_14, mgR_16, mgR_17, mgR_18, mgR_19, mgR_20, mgR_21, mgR_2, mgR_7, mgI_1, mgI_4, mgI_5, mgI_6, mgI_8, mgI_9, mgI_10, mgI_11, mgI_15, mgI_22, mpI_1, mpI_4, mpI_5, mpI_6, mpI_8, mpI_9, mpI_10, mpI_11, mpI_15, mpI_22, mlI_0 hA, mlI_3 hA, mlI_12 hA, mlI_13 hA, mlI_14 hA, mlI_16 hA, mlI_17 hA, mlI_18 hA, mlI_19 hA, mlI_20 hA, mlI_21 hA, msI_0 hA, msI_3 hA, msI_12 hA, msI_13 hA, msI_14 hA, msI_16 hA, msI_17 hA, msI_18 hA, msI_19 hA, msI_20 hA, msI_21 hA, mlZ_2 hA, mlZ_7 hA, msZ_2 hA, msZ_7 hA, kI_some, kL_some, kR_some, kV_none, ne_eq, not_true_eq_false, not_false_eq_true, true_implies, false_implies, implies_true, true_and, and_true, ab_z01, or_true, true_or, reduceCtorEq, Option.some.injEq, Int.reduceEq, Int.reduceNe, Int.reduceLT, Int.reduceLE, Int.reduceNeg, Int.reduceAdd, Int.reduceSub, Int.reduceMul, Nat.reduceEqDiff, Nat.reduceAdd, Nat.reduceMul, Int.reduceToNat, ↓reduceIte, hn]
      refine mc_loanAt (by omega) ?_
      simp only [mCV, kI_some, kL_some, kR_some, kV_none, vu_app, mgR_0, mgR_3, mgR_12, mgR_13, mgR_14, mgR_16, mgR_17, mgR_18, mgR_19, mgR_20, mgR_21, mgR_2, mgR_7, mgI_1, mgI_4, mgI_5, mgI_6, mgI_8, mgI_9, mgI_10, mgI_11, mgI_15, mgI_22, mpI_1, mpI_4, mpI_5, mpI_6, mpI_8, mpI_9, mpI_10, mpI_11, mpI_15, mpI_22, mlI_0 hA, mlI_3 hA, mlI_12 hA, mlI_13 hA, mlI_14 hA, mlI_16 hA, mlI_17 hA, mlI_18 hA, mlI_19 hA, mlI_20 hA, mlI_21 hA, msI_0 hA, msI_3 hA, msI_12 hA, msI_13 hA, msI_14 hA, msI_16 hA, msI_17 hA, msI_18 hA, msI_19 hA, msI_20 hA, msI_21 hA, mlZ_2 hA, mlZ_7 hA, msZ_2 hA, msZ_7 hA, kI_some, kL_some, kR_some, kV_none, ne_eq, not_true_eq_false, not_false_eq_true, true_implies, false_implies, implies_true, true_and, and_true, ab_z01, or_true, true_or, reduceCtorEq, Option.some.injEq, Int.reduceEq, Int.reduceNe, Int.reduceLT, Int.reduceLE, Int.reduceNeg, Int.reduceAdd, Int.reduceSub, Int.reduceMul, Nat.reduceEqDiff, Nat.reduceAdd, Nat.reduceMul, Int.reduceToNat, ↓reduceIte]
      refine ⟨fun c2 => absurd c2 (by omega), fun _ => ?_⟩
      repeat (first | refine And.intro (by omega) ?_ | refine And.intro (i3 (by omega) (by omega)) ?_)
      rw [show (((130 + 22 * k + i : Nat) : Int) + 22).toNat = 130 + 22 * k + i + 22 by omega, Int.toNat_natCast, vu_up, if_neg (by omega), if_neg (by omega)]
      have e : va_up (fun j => if j = 1 then ((n : Nat) : Int) else if 130 + 22 * k ≤ j ∧ j < 130 + 22 * k + i then R (j + 22) else R j) (130 + 22 * k + i) (R (130 + 22 * k + i + 22)) = (fun j => if j = 1 then ((n : Nat) : Int) else if 130 + 22 * k ≤ j ∧ j < 130 + 22 * k + (i + 1) then R (j + 22) else R j) := by
        funext j
        rw [vu_app]
        by_cases q : j = 130 + 22 * k + i
        · subst q
          rw [if_pos rfl, if_neg (by omega), if_pos (by omega)]
        · rw [if_neg q]
          by_cases q0 : j = 1
          · rw [if_pos q0, if_pos q0]
          · rw [if_neg q0, if_neg q0]
            by_cases q2 : 130 + 22 * k ≤ j ∧ j < 130 + 22 * k + i
            · rw [if_pos q2, if_pos (by omega)]
            · rw [if_neg q2, if_neg (by omega)]
      rw [e]
      have ih2 := ih hkn
      rw [hn] at ih2
      rw [show ((130 + 22 * k + i : Nat) : Int) + 1 = ((130 + 22 * k + (i + 1) : Nat) : Int) by omega]
      exact ih2
  · exact kE c
set_option maxRecDepth 100000 in
set_option maxHeartbeats 4000000 in
theorem mc_meet {d : Nat} {h : AbH} {m : Nat} {ad : Nat → Nat} {sc : Nat → Int} {ar : Nat → Nat → Int} {K : Option AbV → AbH → Prop} (hA : mA ad) {f t a b : Int} {u : Nat} (hu : sc 1 = (u : Int)) (hu8 : u ≤ 8) (kE : ∀ r, meetE f t a b = some r → K (some (vI r)) (mH h m ad sc ar)) (kk : meetE f t a b = none → K (some (vI (mtN (setM (kpR (ar 0) u) f t (a + 1) b) 16))) (mH h m ad (va_up sc 1 (kpU u : Int)) (va_up ar 0 (setM (kpR (ar 0) u) f t (a + 1) b)))) : Vm (d + 4) m_X10_meet [vR (some m), vI f, vI t, vI a, vI b] (mH h m ad sc ar) K := by
  refine Vm.intro rfl (Nat.le_of_ble_eq_true rfl) (fun _ => B_X10_meet_0 ?_)
  refine mc_areTongues (fun c => ?_) (fun c => ?_) <;> simp only [kI_some, kL_some, kR_some, kV_none, ne_eq, not_true_eq_false, not_false_eq_true, true_implies, false_implies, implies_true, true_and, and_true, ab_z01, or_true, true_or, reduceCtorEq, Option.some.injEq, Int.reduceEq, Int.reduceNe, Int.reduceLT, Int.reduceLE, Int.reduceNeg, Int.reduceAdd, Int.reduceSub, Int.reduceMul, Nat.reduceEqDiff, Nat.reduceAdd, Nat.reduceMul, Int.reduceToNat, ↓reduceIte]
  · have c0 : 0 ≤ f ∧ f ≤ 3 ∧ 0 ≤ t ∧ t ≤ 3 ∧ f ≠ t := ⟨c.1.1, c.1.2, c.2.1.1, c.2.1.2, c.2.2⟩
    have hE : meetE f t a b = if ¬ (0 ≤ a ∧ a ≤ 99 ∧ a ≤ b ∧ b ≤ 99) then some (-3) else none := if_neg (fun q => q c0)
    refine mc_isDate (fun c1 => ?_) (fun c1 => ?_) <;> simp only [kI_some, kL_some, kR_some, kV_none, ne_eq, not_true_eq_false, not_false_eq_true, true_implies, false_implies, implies_true, true_and, and_true, ab_z01, or_true, true_or, reduceCtorEq, Option.some.injEq, Int.reduceEq, Int.reduceNe, Int.reduceLT, Int.reduceLE, Int.reduceNeg, Int.reduceAdd, Int.reduceSub, Int.reduceMul, Nat.reduceEqDiff, Nat.reduceAdd, Nat.reduceMul, Int.reduceToNat, ↓reduceIte]
    · refine mc_in (fun c2 => ?_) (fun c2 => ?_) <;> simp only [kI_some, kL_some, kR_some, kV_none, ne_eq, not_true_eq_false, not_false_eq_true, true_implies, false_implies, implies_true, true_and, and_true, ab_z01, or_true, true_or, reduceCtorEq, Option.some.injEq, Int.reduceEq, Int.reduceNe, Int.reduceLT, Int.reduceLE, Int.reduceNeg, Int.reduceAdd, Int.reduceSub, Int.reduceMul, Nat.reduceEqDiff, Nat.reduceAdd, Nat.reduceMul, Int.reduceToNat, ↓reduceIte]
      · simp only [mCV]
        refine mc_keepPast hA hu hu8 ?_
        simp only [mCV, kI_some, kL_some, kR_some, kV_none, vu_app, mgR_0, mgR_3, mgR_12, mgR_13, mgR_14, mgR_16, mgR_17, mgR_18, mgR_19, mgR_20, mgR_21, mgR_2, mgR_7, mgI_1, mgI_4, mgI_5, mgI_6, mgI_8, mgI_9, mgI_10, mgI_11, mgI_15, mgI_22, mpI_1, mpI_4, mpI_5, mpI_6, mpI_8, mpI_9, mpI_10, mpI_11, mpI_15, mpI_22, mlI_0 hA, mlI_3 hA, mlI_12 hA, mlI_13 hA, mlI_14 hA, mlI_16 hA, mlI_17 hA, mlI_18 hA, mlI_19 hA, mlI_20 hA, mlI_21 hA, msI_0 hA, msI_3 hA, msI_12 hA, msI_13 hA, msI_14 hA, msI_16 hA, msI_17 hA, msI_18 hA, msI_19 hA, msI_20 hA, msI_21 hA, mlZ_2 hA, mlZ_7 hA, msZ_2 hA, msZ_7 hA, kI_some, kL_some, kR_some, kV_none, ne_eq, not_true_eq_false, not_false_eq_true, true_implies, false_implies, implies_true, true_and, and_true, ab_z01, or_true, true_or, reduceCtorEq, Option.some.injEq, Int.reduceEq, Int.reduceNe, Int.reduceLT, Int.reduceLE, Int.reduceNeg, Int.reduceAdd, Int.reduceSub, Int.reduceMul, Nat.reduceEqDiff, Nat.reduceAdd, Nat.reduceMul, Int.reduceToNat, ↓reduceIte]
        refine mc_meetAt c.1 c.2.1 ?_
        have e1 : (98 + 2 * (4 * f + t)).toNat = 98 + 2 * (4 * f.toNat + t.toNat) := by omega
        have e2 : (98 + 2 * (4 * f + t) + 1).toNat = 98 + 2 * (4 * f.toNat + t.toNat) + 1 := by omega
        simp only [mCV, kI_some, kL_some, kR_some, kV_none, vu_app, mgR_0, mgR_3, mgR_12, mgR_13, mgR_14, mgR_16, mgR_17, mgR_18, mgR_19, mgR_20, mgR_21, mgR_2, mgR_7, mgI_1, mgI_4, mgI_5, mgI_6, mgI_8, mgI_9, mgI_10, mgI_11, mgI_15, mgI_22, mpI_1, mpI_4, mpI_5, mpI_6, mpI_8, mpI_9, mpI_10, mpI_11, mpI_15, mpI_22, mlI_0 hA, mlI_3 hA, mlI_12 hA, mlI_13 hA, mlI_14 hA, mlI_16 hA, mlI_17 hA, mlI_18 hA, mlI_19 hA, mlI_20 hA, mlI_21 hA, msI_0 hA, msI_3 hA, msI_12 hA, msI_13 hA, msI_14 hA, msI_16 hA, msI_17 hA, msI_18 hA, msI_19 hA, msI_20 hA, msI_21 hA, mlZ_2 hA, mlZ_7 hA, msZ_2 hA, msZ_7 hA, kI_some, kL_some, kR_some, kV_none, ne_eq, not_true_eq_false, not_false_eq_true, true_implies, false_implies, implies_true, true_and, and_true, ab_z01, or_true, true_or, reduceCtorEq, Option.some.injEq, Int.reduceEq, Int.reduceNe, Int.reduceLT, Int.reduceLE, Int.reduceNeg, Int.reduceAdd, Int.reduceSub, Int.reduceMul, Nat.reduceEqDiff, Nat.reduceAdd, Nat.reduceMul, Int.reduceToNat, ↓reduceIte, e1]
        repeat (first | refine And.intro (by omega) ?_ | refine And.intro (i3 (by omega) (by omega)) ?_)
        refine mc_meetAt c.1 c.2.1 ?_
        simp only [mCV, kI_some, kL_some, kR_some, kV_none, vu_app, mgR_0, mgR_3, mgR_12, mgR_13, mgR_14, mgR_16, mgR_17, mgR_18, mgR_19, mgR_20, mgR_21, mgR_2, mgR_7, mgI_1, mgI_4, mgI_5, mgI_6, mgI_8, mgI_9, mgI_10, mgI_11, mgI_15, mgI_22, mpI_1, mpI_4, mpI_5, mpI_6, mpI_8, mpI_9, mpI_10, mpI_11, mpI_15, mpI_22, mlI_0 hA, mlI_3 hA, mlI_12 hA, mlI_13 hA, mlI_14 hA, mlI_16 hA, mlI_17 hA, mlI_18 hA, mlI_19 hA, mlI_20 hA, mlI_21 hA, msI_0 hA, msI_3 hA, msI_12 hA, msI_13 hA, msI_14 hA, msI_16 hA, msI_17 hA, msI_18 hA, msI_19 hA, msI_20 hA, msI_21 hA, mlZ_2 hA, mlZ_7 hA, msZ_2 hA, msZ_7 hA, kI_some, kL_some, kR_some, kV_none, ne_eq, not_true_eq_false, not_false_eq_true, true_implies, false_implies, implies_true, true_and, and_true, ab_z01, or_true, true_or, reduceCtorEq, Option.some.injEq, Int.reduceEq, Int.reduceNe, Int.reduceLT, Int.reduceLE, Int.reduceNeg, Int.reduceAdd, Int.reduceSub, Int.reduceMul, Nat.reduceEqDiff, Nat.reduceAdd, Nat.reduceMul, Int.reduceToNat, ↓reduceIte, e2]
        repeat (first | refine And.intro (by omega) ?_ | refine And.intro (i3 (by omega) (by omega)) ?_)
        refine mc_meetings hA ?_
        simp only [mCV, kI_some, kL_some, kR_some, kV_none, vu_app, mgR_0, mgR_3, mgR_12, mgR_13, mgR_14, mgR_16, mgR_17, mgR_18, mgR_19, mgR_20, mgR_21, mgR_2, mgR_7, mgI_1, mgI_4, mgI_5, mgI_6, mgI_8, mgI_9, mgI_10, mgI_11, mgI_15, mgI_22, mpI_1, mpI_4, mpI_5, mpI_6, mpI_8, mpI_9, mpI_10, mpI_11, mpI_15, mpI_22, mlI_0 hA, mlI_3 hA, mlI_12 hA, mlI_13 hA, mlI_14 hA, mlI_16 hA, mlI_17 hA, mlI_18 hA, mlI_19 hA, mlI_20 hA, mlI_21 hA, msI_0 hA, msI_3 hA, msI_12 hA, msI_13 hA, msI_14 hA, msI_16 hA, msI_17 hA, msI_18 hA, msI_19 hA, msI_20 hA, msI_21 hA, mlZ_2 hA, mlZ_7 hA, msZ_2 hA, msZ_7 hA, kI_some, kL_some, kR_some, kV_none, ne_eq, not_true_eq_false, not_false_eq_true, true_implies, false_implies, implies_true, true_and, and_true, ab_z01, or_true, true_or, reduceCtorEq, Option.some.injEq, Int.reduceEq, Int.reduceNe, Int.reduceLT, Int.reduceLE, Int.reduceNeg, Int.reduceAdd, Int.reduceSub, Int.reduceMul, Nat.reduceEqDiff, Nat.reduceAdd, Nat.reduceMul, Int.reduceToNat, ↓reduceIte, vu_up]
        exact kk (by rw [hE, if_neg (fun q => q (by omega))])
      · exact kE (-3) (by rw [hE, if_pos (by omega)])
    · exact kE (-3) (by rw [hE, if_pos (by omega)])
  · exact kE (-2) (if_pos (fun q => c ⟨⟨q.1, q.2.1⟩, ⟨q.2.2.1, q.2.2.2.1⟩, q.2.2.2.2⟩))
set_option maxRecDepth 100000 in
set_option maxHeartbeats 4000000 in
theorem mc_part {d : Nat} {h : AbH} {m : Nat} {ad : Nat → Nat} {sc : Nat → Int} {ar : Nat → Nat → Int} {K : Option AbV → AbH → Prop} (hA : mA ad) {f t : Int} {u : Nat} (hu : sc 1 = (u : Int)) (hu8 : u ≤ 8) (kE : ∀ r, partE (ar 0) f t = some r → K (some (vI r)) (mH h m ad sc ar)) (kk : partE (ar 0) f t = none → K (some (vI (mtN (setM (kpR (ar 0) u) f t 0 0) 16))) (mH h m ad (va_up sc 1 (kpU u : Int)) (va_up ar 0 (setM (kpR (ar 0) u) f t 0 0)))) : Vm (d + 4) m_X10_part [vR (some m), vI f, vI t] (mH h m ad sc ar) K := by
  refine Vm.intro rfl (Nat.le_of_ble_eq_true rfl) (fun _ => B_X10_part_0 ?_)
  refine mc_areTongues (fun c => ?_) (fun c => ?_) <;> simp only [kI_some, kL_some, kR_some, kV_none, ne_eq, not_true_eq_false, not_false_eq_true, true_implies, false_implies, implies_true, true_and, and_true, ab_z01, or_true, true_or, reduceCtorEq, Option.some.injEq, Int.reduceEq, Int.reduceNe, Int.reduceLT, Int.reduceLE, Int.reduceNeg, Int.reduceAdd, Int.reduceSub, Int.reduceMul, Nat.reduceEqDiff, Nat.reduceAdd, Nat.reduceMul, Int.reduceToNat, ↓reduceIte]
  · have c0 : 0 ≤ f ∧ f ≤ 3 ∧ 0 ≤ t ∧ t ≤ 3 ∧ f ≠ t := ⟨c.1.1, c.1.2, c.2.1.1, c.2.1.2, c.2.2⟩
    have hE : partE (ar 0) f t = if ar 0 (98 + 2 * (4 * f.toNat + t.toNat)) = 0 then some (-2) else none := if_neg (fun q => q c0)
    have e1 : (98 + 2 * (4 * f + t)).toNat = 98 + 2 * (4 * f.toNat + t.toNat) := by omega
    have e2 : (98 + 2 * (4 * f + t) + 1).toNat = 98 + 2 * (4 * f.toNat + t.toNat) + 1 := by omega
    simp only [mCV, kI_some, kL_some, kR_some, kV_none, vu_app, mgR_0, mgR_3, mgR_12, mgR_13, mgR_14, mgR_16, mgR_17, mgR_18, mgR_19, mgR_20, mgR_21, mgR_2, mgR_7, mgI_1, mgI_4, mgI_5, mgI_6, mgI_8, mgI_9, mgI_10, mgI_11, mgI_15, mgI_22, mpI_1, mpI_4, mpI_5, mpI_6, mpI_8, mpI_9, mpI_10, mpI_11, mpI_15, mpI_22, mlI_0 hA, mlI_3 hA, mlI_12 hA, mlI_13 hA, mlI_14 hA, mlI_16 hA, mlI_17 hA, mlI_18 hA, mlI_19 hA, mlI_20 hA, mlI_21 hA, msI_0 hA, msI_3 hA, msI_12 hA, msI_13 hA, msI_14 hA, msI_16 hA, msI_17 hA, msI_18 hA, msI_19 hA, msI_20 hA, msI_21 hA, mlZ_2 hA, mlZ_7 hA, msZ_2 hA, msZ_7 hA, kI_some, kL_some, kR_some, kV_none, ne_eq, not_true_eq_false, not_false_eq_true, true_implies, false_implies, implies_true, true_and, and_true, ab_z01, or_true, true_or, reduceCtorEq, Option.some.injEq, Int.reduceEq, Int.reduceNe, Int.reduceLT, Int.reduceLE, Int.reduceNeg, Int.reduceAdd, Int.reduceSub, Int.reduceMul, Nat.reduceEqDiff, Nat.reduceAdd, Nat.reduceMul, Int.reduceToNat, ↓reduceIte]
    refine mc_meetAt c.1 c.2.1 ?_
    simp only [mCV, kI_some, kL_some, kR_some, kV_none, vu_app, mgR_0, mgR_3, mgR_12, mgR_13, mgR_14, mgR_16, mgR_17, mgR_18, mgR_19, mgR_20, mgR_21, mgR_2, mgR_7, mgI_1, mgI_4, mgI_5, mgI_6, mgI_8, mgI_9, mgI_10, mgI_11, mgI_15, mgI_22, mpI_1, mpI_4, mpI_5, mpI_6, mpI_8, mpI_9, mpI_10, mpI_11, mpI_15, mpI_22, mlI_0 hA, mlI_3 hA, mlI_12 hA, mlI_13 hA, mlI_14 hA, mlI_16 hA, mlI_17 hA, mlI_18 hA, mlI_19 hA, mlI_20 hA, mlI_21 hA, msI_0 hA, msI_3 hA, msI_12 hA, msI_13 hA, msI_14 hA, msI_16 hA, msI_17 hA, msI_18 hA, msI_19 hA, msI_20 hA, msI_21 hA, mlZ_2 hA, mlZ_7 hA, msZ_2 hA, msZ_7 hA, kI_some, kL_some, kR_some, kV_none, ne_eq, not_true_eq_false, not_false_eq_true, true_implies, false_implies, implies_true, true_and, and_true, ab_z01, or_true, true_or, reduceCtorEq, Option.some.injEq, Int.reduceEq, Int.reduceNe, Int.reduceLT, Int.reduceLE, Int.reduceNeg, Int.reduceAdd, Int.reduceSub, Int.reduceMul, Nat.reduceEqDiff, Nat.reduceAdd, Nat.reduceMul, Int.reduceToNat, ↓reduceIte, e1]
    repeat (first | refine And.intro (by omega) ?_ | refine And.intro (i3 (by omega) (by omega)) ?_)
    refine ⟨fun c1 => ?_, fun c1 => kE (-2) (by rw [hE, if_pos (by simpa using c1)])⟩
    refine mc_keepPast hA hu hu8 ?_
    simp only [mCV, kI_some, kL_some, kR_some, kV_none, vu_app, mgR_0, mgR_3, mgR_12, mgR_13, mgR_14, mgR_16, mgR_17, mgR_18, mgR_19, mgR_20, mgR_21, mgR_2, mgR_7, mgI_1, mgI_4, mgI_5, mgI_6, mgI_8, mgI_9, mgI_10, mgI_11, mgI_15, mgI_22, mpI_1, mpI_4, mpI_5, mpI_6, mpI_8, mpI_9, mpI_10, mpI_11, mpI_15, mpI_22, mlI_0 hA, mlI_3 hA, mlI_12 hA, mlI_13 hA, mlI_14 hA, mlI_16 hA, mlI_17 hA, mlI_18 hA, mlI_19 hA, mlI_20 hA, mlI_21 hA, msI_0 hA, msI_3 hA, msI_12 hA, msI_13 hA, msI_14 hA, msI_16 hA, msI_17 hA, msI_18 hA, msI_19 hA, msI_20 hA, msI_21 hA, mlZ_2 hA, mlZ_7 hA, msZ_2 hA, msZ_7 hA, kI_some, kL_some, kR_some, kV_none, ne_eq, not_true_eq_false, not_false_eq_true, true_implies, false_implies, implies_true, true_and, and_true, ab_z01, or_true, true_or, reduceCtorEq, Option.some.injEq, Int.reduceEq, Int.reduceNe, Int.reduceLT, Int.reduceLE, Int.reduceNeg, Int.reduceAdd, Int.reduceSub, Int.reduceMul, Nat.reduceEqDiff, Nat.reduceAdd, Nat.reduceMul, Int.reduceToNat, ↓reduceIte]
    refine mc_meetAt c.1 c.2.1 ?_
    simp only [mCV, kI_some, kL_some, kR_some, kV_none, vu_app, mgR_0, mgR_3, mgR_12, mgR_13, mgR_14, mgR_16, mgR_17, mgR_18, mgR_19, mgR_20, mgR_21, mgR_2, mgR_7, mgI_1, mgI_4, mgI_5, mgI_6, mgI_8, mgI_9, mgI_10, mgI_11, mgI_15, mgI_22, mpI_1, mpI_4, mpI_5, mpI_6, mpI_8, mpI_9, mpI_10, mpI_11, mpI_15, mpI_22, mlI_0 hA, mlI_3 hA, mlI_12 hA, mlI_13 hA, mlI_14 hA, mlI_16 hA, mlI_17 hA, mlI_18 hA, mlI_19 hA, mlI_20 hA, mlI_21 hA, msI_0 hA, msI_3 hA, msI_12 hA, msI_13 hA, msI_14 hA, msI_16 hA, msI_17 hA, msI_18 hA, msI_19 hA, msI_20 hA, msI_21 hA, mlZ_2 hA, mlZ_7 hA, msZ_2 hA, msZ_7 hA, kI_some, kL_some, kR_some, kV_none, ne_eq, not_true_eq_false, not_false_eq_true, true_implies, false_implies, implies_true, true_and, and_true, ab_z01, or_true, true_or, reduceCtorEq, Option.some.injEq, Int.reduceEq, Int.reduceNe, Int.reduceLT, Int.reduceLE, Int.reduceNeg, Int.reduceAdd, Int.reduceSub, Int.reduceMul, Nat.reduceEqDiff, Nat.reduceAdd, Nat.reduceMul, Int.reduceToNat, ↓reduceIte, e1]
    repeat (first | refine And.intro (by omega) ?_ | refine And.intro (i3 (by omega) (by omega)) ?_)
    refine mc_meetAt c.1 c.2.1 ?_
    simp only [mCV, kI_some, kL_some, kR_some, kV_none, vu_app, mgR_0, mgR_3, mgR_12, mgR_13, mgR_14, mgR_16, mgR_17, mgR_18, mgR_19, mgR_20, mgR_21, mgR_2, mgR_7, mgI_1, mgI_4, mgI_5, mgI_6, mgI_8, mgI_9, mgI_10, mgI_11, mgI_15, mgI_22, mpI_1, mpI_4, mpI_5, mpI_6, mpI_8, mpI_9, mpI_10, mpI_11, mpI_15, mpI_22, mlI_0 hA, mlI_3 hA, mlI_12 hA, mlI_13 hA, mlI_14 hA, mlI_16 hA, mlI_17 hA, mlI_18 hA, mlI_19 hA, mlI_20 hA, mlI_21 hA, msI_0 hA, msI_3 hA, msI_12 hA, msI_13 hA, msI_14 hA, msI_16 hA, msI_17 hA, msI_18 hA, msI_19 hA, msI_20 hA, msI_21 hA, mlZ_2 hA, mlZ_7 hA, msZ_2 hA, msZ_7 hA, kI_some, kL_some, kR_some, kV_none, ne_eq, not_true_eq_false, not_false_eq_true, true_implies, false_implies, implies_true, true_and, and_true, ab_z01, or_true, true_or, reduceCtorEq, Option.some.injEq, Int.reduceEq, Int.reduceNe, Int.reduceLT, Int.reduceLE, Int.reduceNeg, Int.reduceAdd, Int.reduceSub, Int.reduceMul, Nat.reduceEqDiff, Nat.reduceAdd, Nat.reduceMul, Int.reduceToNat, ↓reduceIte, e2]
    repeat (first | refine And.intro (by omega) ?_ | refine And.intro (i3 (by omega) (by omega)) ?_)
    refine mc_meetings hA ?_
    simp only [mCV, kI_some, kL_some, kR_some, kV_none, vu_app, mgR_0, mgR_3, mgR_12, mgR_13, mgR_14, mgR_16, mgR_17, mgR_18, mgR_19, mgR_20, mgR_21, mgR_2, mgR_7, mgI_1, mgI_4, mgI_5, mgI_6, mgI_8, mgI_9, mgI_10, mgI_11, mgI_15, mgI_22, mpI_1, mpI_4, mpI_5, mpI_6, mpI_8, mpI_9, mpI_10, mpI_11, mpI_15, mpI_22, mlI_0 hA, mlI_3 hA, mlI_12 hA, mlI_13 hA, mlI_14 hA, mlI_16 hA, mlI_17 hA, mlI_18 hA, mlI_19 hA, mlI_20 hA, mlI_21 hA, msI_0 hA, msI_3 hA, msI_12 hA, msI_13 hA, msI_14 hA, msI_16 hA, msI_17 hA, msI_18 hA, msI_19 hA, msI_20 hA, msI_21 hA, mlZ_2 hA, mlZ_7 hA, msZ_2 hA, msZ_7 hA, kI_some, kL_some, kR_some, kV_none, ne_eq, not_true_eq_false, not_false_eq_true, true_implies, false_implies, implies_true, true_and, and_true, ab_z01, or_true, true_or, reduceCtorEq, Option.some.injEq, Int.reduceEq, Int.reduceNe, Int.reduceLT, Int.reduceLE, Int.reduceNeg, Int.reduceAdd, Int.reduceSub, Int.reduceMul, Nat.reduceEqDiff, Nat.reduceAdd, Nat.reduceMul, Int.reduceToNat, ↓reduceIte, vu_up]
    exact kk (by rw [hE, if_neg c1])
  · exact kE (-2) (if_pos (fun q => c ⟨⟨q.1, q.2.1⟩, ⟨q.2.2.1, q.2.2.2.1⟩, q.2.2.2.2⟩))
set_option maxRecDepth 100000 in
set_option maxHeartbeats 4000000 in
theorem mc_undo {d : Nat} {h : AbH} {m : Nat} {ad : Nat → Nat} {sc : Nat → Int} {ar : Nat → Nat → Int} {K : Option AbV → AbH → Prop} (hA : mA ad) {u : Nat} (hu : sc 1 = (u : Int)) (hu8 : u ≤ 8) (kE : u = 0 → K (some (vI (-4))) (mH h m ad sc ar)) (kk : 0 < u → K (some (vI ((u - 1 : Nat) : Int))) (mH h m ad (va_up sc 1 ((u - 1 : Nat) : Int)) (va_up ar 0 (cpR (ar 0) (394 + 394 * (u - 1)) 0)))) : Vm (d + 2) m_X10_undo [vR (some m)] (mH h m ad sc ar) K := by
  refine Vm.intro rfl (Nat.le_of_ble_eq_true rfl) (fun _ => B_X10_undo_0 ?_)
  simp only [mCV, kI_some, kL_some, kR_some, kV_none, vu_app, mgR_0, mgR_3, mgR_12, mgR_13, mgR_14, mgR_16, mgR_17, mgR_18, mgR_19, mgR_20, mgR_21, mgR_2, mgR_7, mgI_1, mgI_4, mgI_5, mgI_6, mgI_8, mgI_9, mgI_10, mgI_11, mgI_15, mgI_22, mpI_1, mpI_4, mpI_5, mpI_6, mpI_8, mpI_9, mpI_10, mpI_11, mpI_15, mpI_22, mlI_0 hA, mlI_3 hA, mlI_12 hA, mlI_13 hA, mlI_14 hA, mlI_16 hA, mlI_17 hA, mlI_18 hA, mlI_19 hA, mlI_20 hA, mlI_21 hA, msI_0 hA, msI_3 hA, msI_12 hA, msI_13 hA, msI_14 hA, msI_16 hA, msI_17 hA, msI_18 hA, msI_19 hA, msI_20 hA, msI_21 hA, mlZ_2 hA, mlZ_7 hA, msZ_2 hA, msZ_7 hA, kI_some, kL_some, kR_some, kV_none, ne_eq, not_true_eq_false, not_false_eq_true, true_implies, false_implies, implies_true, true_and, and_true, ab_z01, or_true, true_or, reduceCtorEq, Option.some.injEq, Int.reduceEq, Int.reduceNe, Int.reduceLT, Int.reduceLE, Int.reduceNeg, Int.reduceAdd, Int.reduceSub, Int.reduceMul, Nat.reduceEqDiff, Nat.reduceAdd, Nat.reduceMul, Int.reduceToNat, ↓reduceIte, hu]
  refine ⟨fun c => ?_, fun c => kE (by omega)⟩
  repeat (first | refine And.intro (by omega) ?_ | refine And.intro (i3 (by omega) (by omega)) ?_)
  rw [show (u : Int) - 1 = ((u - 1 : Nat) : Int) by omega, show 394 + 394 * ((u - 1 : Nat) : Int) = ((394 + 394 * (u - 1) : Nat) : Int) by omega]
  refine mc_copyRow hA (t := 0) (by omega) (by decide) (by omega) ?_
  simp only [mCV, kI_some, kL_some, kR_some, kV_none, vu_app, mgR_0, mgR_3, mgR_12, mgR_13, mgR_14, mgR_16, mgR_17, mgR_18, mgR_19, mgR_20, mgR_21, mgR_2, mgR_7, mgI_1, mgI_4, mgI_5, mgI_6, mgI_8, mgI_9, mgI_10, mgI_11, mgI_15, mgI_22, mpI_1, mpI_4, mpI_5, mpI_6, mpI_8, mpI_9, mpI_10, mpI_11, mpI_15, mpI_22, mlI_0 hA, mlI_3 hA, mlI_12 hA, mlI_13 hA, mlI_14 hA, mlI_16 hA, mlI_17 hA, mlI_18 hA, mlI_19 hA, mlI_20 hA, mlI_21 hA, msI_0 hA, msI_3 hA, msI_12 hA, msI_13 hA, msI_14 hA, msI_16 hA, msI_17 hA, msI_18 hA, msI_19 hA, msI_20 hA, msI_21 hA, mlZ_2 hA, mlZ_7 hA, msZ_2 hA, msZ_7 hA, kI_some, kL_some, kR_some, kV_none, ne_eq, not_true_eq_false, not_false_eq_true, true_implies, false_implies, implies_true, true_and, and_true, ab_z01, or_true, true_or, reduceCtorEq, Option.some.injEq, Int.reduceEq, Int.reduceNe, Int.reduceLT, Int.reduceLE, Int.reduceNeg, Int.reduceAdd, Int.reduceSub, Int.reduceMul, Nat.reduceEqDiff, Nat.reduceAdd, Nat.reduceMul, Int.reduceToNat, ↓reduceIte]
  exact kk (by omega)
set_option maxRecDepth 100000 in
set_option maxHeartbeats 4000000 in
theorem mc_keep {d : Nat} {h : AbH} {m : Nat} {ad : Nat → Nat} {sc : Nat → Int} {ar : Nat → Nat → Int} {K : Option AbV → AbH → Prop} (hA : mA ad) {v : Int} (kE : ¬ (0 ≤ v ∧ v ≤ 1) → K (some (vI (-3))) (mH h m ad sc ar)) (kk : 0 ≤ v ∧ v ≤ 1 → K (some (vI (ar 0 0))) (mH h m ad sc (va_up (va_up ar 0 (cpR (ar 0) 0 (3546 + 394 * v.toNat))) 2 (va_up (ar 2) v.toNat 1)))) : Vm (d + 2) m_X10_keep [vR (some m), vI v] (mH h m ad sc ar) K := by
  refine Vm.intro rfl (Nat.le_of_ble_eq_true rfl) (fun _ => B_X10_keep_0 ?_)
  refine mc_in (fun c => ?_) (fun c => ?_) <;> simp only [kI_some, kL_some, kR_some, kV_none, ne_eq, not_true_eq_false, not_false_eq_true, true_implies, false_implies, implies_true, true_and, and_true, ab_z01, or_true, true_or, reduceCtorEq, Option.some.injEq, Int.reduceEq, Int.reduceNe, Int.reduceLT, Int.reduceLE, Int.reduceNeg, Int.reduceAdd, Int.reduceSub, Int.reduceMul, Nat.reduceEqDiff, Nat.reduceAdd, Nat.reduceMul, Int.reduceToNat, ↓reduceIte]
  · simp only [mCV, kI_some, kL_some, kR_some, kV_none, vu_app, mgR_0, mgR_3, mgR_12, mgR_13, mgR_14, mgR_16, mgR_17, mgR_18, mgR_19, mgR_20, mgR_21, mgR_2, mgR_7, mgI_1, mgI_4, mgI_5, mgI_6, mgI_8, mgI_9, mgI_10, mgI_11, mgI_15, mgI_22, mpI_1, mpI_4, mpI_5, mpI_6, mpI_8, mpI_9, mpI_10, mpI_11, mpI_15, mpI_22, mlI_0 hA, mlI_3 hA, mlI_12 hA, mlI_13 hA, mlI_14 hA, mlI_16 hA, mlI_17 hA, mlI_18 hA, mlI_19 hA, mlI_20 hA, mlI_21 hA, msI_0 hA, msI_3 hA, msI_12 hA, msI_13 hA, msI_14 hA, msI_16 hA, msI_17 hA, msI_18 hA, msI_19 hA, msI_20 hA, msI_21 hA, mlZ_2 hA, mlZ_7 hA, msZ_2 hA, msZ_7 hA, kI_some, kL_some, kR_some, kV_none, ne_eq, not_true_eq_false, not_false_eq_true, true_implies, false_implies, implies_true, true_and, and_true, ab_z01, or_true, true_or, reduceCtorEq, Option.some.injEq, Int.reduceEq, Int.reduceNe, Int.reduceLT, Int.reduceLE, Int.reduceNeg, Int.reduceAdd, Int.reduceSub, Int.reduceMul, Nat.reduceEqDiff, Nat.reduceAdd, Nat.reduceMul, Int.reduceToNat, ↓reduceIte]
    repeat (first | refine And.intro (by omega) ?_ | refine And.intro (i3 (by omega) (by omega)) ?_)
    rw [show 3546 + 394 * v = ((3546 + 394 * v.toNat : Nat) : Int) by omega]
    refine mc_copyRow hA (f := 0) (by decide) (by omega) (by omega) ?_
    simp only [mCV, kI_some, kL_some, kR_some, kV_none, vu_app, mgR_0, mgR_3, mgR_12, mgR_13, mgR_14, mgR_16, mgR_17, mgR_18, mgR_19, mgR_20, mgR_21, mgR_2, mgR_7, mgI_1, mgI_4, mgI_5, mgI_6, mgI_8, mgI_9, mgI_10, mgI_11, mgI_15, mgI_22, mpI_1, mpI_4, mpI_5, mpI_6, mpI_8, mpI_9, mpI_10, mpI_11, mpI_15, mpI_22, mlI_0 hA, mlI_3 hA, mlI_12 hA, mlI_13 hA, mlI_14 hA, mlI_16 hA, mlI_17 hA, mlI_18 hA, mlI_19 hA, mlI_20 hA, mlI_21 hA, msI_0 hA, msI_3 hA, msI_12 hA, msI_13 hA, msI_14 hA, msI_16 hA, msI_17 hA, msI_18 hA, msI_19 hA, msI_20 hA, msI_21 hA, mlZ_2 hA, mlZ_7 hA, msZ_2 hA, msZ_7 hA, kI_some, kL_some, kR_some, kV_none, ne_eq, not_true_eq_false, not_false_eq_true, true_implies, false_implies, implies_true, true_and, and_true, ab_z01, or_true, true_or, reduceCtorEq, Option.some.injEq, Int.reduceEq, Int.reduceNe, Int.reduceLT, Int.reduceLE, Int.reduceNeg, Int.reduceAdd, Int.reduceSub, Int.reduceMul, Nat.reduceEqDiff, Nat.reduceAdd, Nat.reduceMul, Int.reduceToNat, ↓reduceIte]
    repeat (first | refine And.intro (by omega) ?_ | refine And.intro (i3 (by omega) (by omega)) ?_)
    have e : cpR (ar 0) 0 (3546 + 394 * v.toNat) 0 = ar 0 0 := if_neg (by omega)
    rw [e]
    exact kk c
  · exact kE c
set_option maxRecDepth 100000 in
set_option maxHeartbeats 4000000 in
theorem mc_back {d : Nat} {h : AbH} {m : Nat} {ad : Nat → Nat} {sc : Nat → Int} {ar : Nat → Nat → Int} {K : Option AbV → AbH → Prop} (hA : mA ad) {v : Int} (kE : ¬ (0 ≤ v ∧ v ≤ 1) → K (some (vI (-3))) (mH h m ad sc ar)) (kN : 0 ≤ v ∧ v ≤ 1 → ar 2 v.toNat = 0 → K (some (vI (-4))) (mH h m ad sc ar)) (kk : 0 ≤ v ∧ v ≤ 1 → ar 2 v.toNat ≠ 0 → K (some (vI (ar 0 (3546 + 394 * v.toNat)))) (mH h m ad (va_up sc 1 0) (va_up ar 0 (cpR (ar 0) (3546 + 394 * v.toNat) 0)))) : Vm (d + 2) m_X10_back [vR (some m), vI v] (mH h m ad sc ar) K := by
  refine Vm.intro rfl (Nat.le_of_ble_eq_true rfl) (fun _ => B_X10_back_0 ?_)
  refine mc_in (fun c => ?_) (fun c => ?_) <;> simp only [kI_some, kL_some, kR_some, kV_none, ne_eq, not_true_eq_false, not_false_eq_true, true_implies, false_implies, implies_true, true_and, and_true, ab_z01, or_true, true_or, reduceCtorEq, Option.some.injEq, Int.reduceEq, Int.reduceNe, Int.reduceLT, Int.reduceLE, Int.reduceNeg, Int.reduceAdd, Int.reduceSub, Int.reduceMul, Nat.reduceEqDiff, Nat.reduceAdd, Nat.reduceMul, Int.reduceToNat, ↓reduceIte]
  · simp only [mCV, kI_some, kL_some, kR_some, kV_none, vu_app, mgR_0, mgR_3, mgR_12, mgR_13, mgR_14, mgR_16, mgR_17, mgR_18, mgR_19, mgR_20, mgR_21, mgR_2, mgR_7, mgI_1, mgI_4, mgI_5, mgI_6, mgI_8, mgI_9, mgI_10, mgI_11, mgI_15, mgI_22, mpI_1, mpI_4, mpI_5, mpI_6, mpI_8, mpI_9, mpI_10, mpI_11, mpI_15, mpI_22, mlI_0 hA, mlI_3 hA, mlI_12 hA, mlI_13 hA, mlI_14 hA, mlI_16 hA, mlI_17 hA, mlI_18 hA, mlI_19 hA, mlI_20 hA, mlI_21 hA, msI_0 hA, msI_3 hA, msI_12 hA, msI_13 hA, msI_14 hA, msI_16 hA, msI_17 hA, msI_18 hA, msI_19 hA, msI_20 hA, msI_21 hA, mlZ_2 hA, mlZ_7 hA, msZ_2 hA, msZ_7 hA, kI_some, kL_some, kR_some, kV_none, ne_eq, not_true_eq_false, not_false_eq_true, true_implies, false_implies, implies_true, true_and, and_true, ab_z01, or_true, true_or, reduceCtorEq, Option.some.injEq, Int.reduceEq, Int.reduceNe, Int.reduceLT, Int.reduceLE, Int.reduceNeg, Int.reduceAdd, Int.reduceSub, Int.reduceMul, Nat.reduceEqDiff, Nat.reduceAdd, Nat.reduceMul, Int.reduceToNat, ↓reduceIte]
    repeat (first | refine And.intro (by omega) ?_ | refine And.intro (i3 (by omega) (by omega)) ?_)
    refine ⟨fun c1 => ?_, fun c1 => kN c (by simpa using c1)⟩
    repeat (first | refine And.intro (by omega) ?_ | refine And.intro (i3 (by omega) (by omega)) ?_)
    rw [show 3546 + 394 * v = ((3546 + 394 * v.toNat : Nat) : Int) by omega]
    refine mc_copyRow hA (t := 0) (by omega) (by decide) (by omega) ?_
    simp only [mCV, kI_some, kL_some, kR_some, kV_none, vu_app, mgR_0, mgR_3, mgR_12, mgR_13, mgR_14, mgR_16, mgR_17, mgR_18, mgR_19, mgR_20, mgR_21, mgR_2, mgR_7, mgI_1, mgI_4, mgI_5, mgI_6, mgI_8, mgI_9, mgI_10, mgI_11, mgI_15, mgI_22, mpI_1, mpI_4, mpI_5, mpI_6, mpI_8, mpI_9, mpI_10, mpI_11, mpI_15, mpI_22, mlI_0 hA, mlI_3 hA, mlI_12 hA, mlI_13 hA, mlI_14 hA, mlI_16 hA, mlI_17 hA, mlI_18 hA, mlI_19 hA, mlI_20 hA, mlI_21 hA, msI_0 hA, msI_3 hA, msI_12 hA, msI_13 hA, msI_14 hA, msI_16 hA, msI_17 hA, msI_18 hA, msI_19 hA, msI_20 hA, msI_21 hA, mlZ_2 hA, mlZ_7 hA, msZ_2 hA, msZ_7 hA, kI_some, kL_some, kR_some, kV_none, ne_eq, not_true_eq_false, not_false_eq_true, true_implies, false_implies, implies_true, true_and, and_true, ab_z01, or_true, true_or, reduceCtorEq, Option.some.injEq, Int.reduceEq, Int.reduceNe, Int.reduceLT, Int.reduceLE, Int.reduceNeg, Int.reduceAdd, Int.reduceSub, Int.reduceMul, Nat.reduceEqDiff, Nat.reduceAdd, Nat.reduceMul, Int.reduceToNat, ↓reduceIte]
    have e : cpR (ar 0) (3546 + 394 * v.toNat) 0 0 = ar 0 (3546 + 394 * v.toNat) := if_pos (by omega)
    rw [e]
    exact kk c c1
  · exact kE c

theorem borr_V {w : Nat → Int} {f t d : Int} {l : List Int} (hw : wL w) (hl : fV l) : fV (borr w f t d l) := dev_V hw (dev_V hw hl)
theorem ap_cg {w w' : Nat → Int} (h : ∀ j, j < 98 → j ≠ 1 → w' j = w j) {k : Nat} (hk : k < 16) (l : List Int) : ap w' k l = ap w k l := by
  have hl : ∀ j, j < 6 → lw w' k j = lw w k j := fun j hj => h _ (by omega) (by omega)
  have hc : cgL w' k l = cgL w k l := by
    funext i
    unfold cgL
    rw [hl 2 (by decide), hl 4 (by decide), hl 5 (by decide)]
  unfold ap
  rw [hc, hl 3 (by decide)]
theorem devN_cg {w w' : Nat → Int} (h : ∀ j, j < 98 → j ≠ 1 → w' j = w j) {t d e : Int} {l : List Int} : ∀ n, n ≤ 16 → devN w' t d e l n = devN w t d e l n
  | 0, _ => rfl
  | n + 1, hn => by
    unfold devN
    rw [devN_cg h n (by omega), ap_cg h (by omega)]
    unfold lw
    rw [h _ (by omega) (by omega), h _ (by omega) (by omega)]
theorem borr_cg {w w' : Nat → Int} (h : ∀ j, j < 98 → j ≠ 1 → w' j = w j) (hn : nl w ≤ 16) {f t d : Int} {l : List Int} : borr w' f t d l = borr w f t d l := by
  have hnl : nl w' = nl w := by unfold nl; rw [h 0 (by omega) (by decide)]
  unfold borr dev
  rw [hnl, devN_cg h _ hn, devN_cg h _ hn]
theorem word_cg {w w' : Nat → Int} {k : Nat} (h : ∀ j, j < 22 → lo w' k j = lo w k j) (hb : lo w k 2 ≤ 8) : word w' k = word w k := by
  unfold word
  rw [h 2 (by decide)]
  refine List.map_congr_left (fun i hi => ?_)
  have := List.mem_range.mp hi
  exact h _ (by omega)
theorem wend_cg {w w' : Nat → Int} {k : Nat} (h : ∀ j, j < 22 → lo w' k j = lo w k j) (hb : lo w k 3 ≤ 10) : wend w' k = wend w k := by
  unfold wend
  rw [h 3 (by decide)]
  refine List.map_congr_left (fun i hi => ?_)
  have := List.mem_range.mp hi
  exact h _ (by omega)
theorem lndW_app {R : Nat → Int} {k : Nat} {f t : Int} {l : List Int} {j : Nat} : lndW R k f t l j = if j = 1 then R 1 + 1 else if j = 130 + 22 * no R then f else if j = 130 + 22 * no R + 1 then t else if j = 130 + 22 * no R + 3 then (l.length : Int) else if 130 + 22 * no R + 2 ≤ j ∧ j < 130 + 22 * no R + 12 then R (130 + 22 * k + (j - (130 + 22 * no R))) else if 130 + 22 * no R + 12 ≤ j ∧ j < 130 + 22 * no R + 12 + l.length then l.getD (j - (130 + 22 * no R + 12)) 0 else R j := rfl
set_option maxRecDepth 100000 in
set_option maxHeartbeats 4000000 in
theorem mc_lend {d : Nat} {h : AbH} {m : Nat} {ad : Nat → Nat} {sc : Nat → Int} {ar : Nat → Nat → Int} {K : Option AbV → AbH → Prop} (hA : mA ad) {v f t dd : Int} {u : Nat} (hw : wV (ar 0)) (hu : sc 1 = (u : Int)) (hu8 : u ≤ 8) (kE : ∀ r, lendE (ar 0) v f t dd = some r → K (some (vI r)) (mH h m ad sc ar)) (kk : lendE (ar 0) v f t dd = none → ∀ sc' ar', mE FS (va_up sc 1 (kpU u : Int)) (va_up ar 0 (lndW (kpR (ar 0) u) v.toNat f t (borr (ar 0) f t dd (word (ar 0) v.toNat)))) sc' ar' → K (some (vI (ar 0 1 + 1))) (mH h m ad sc' ar')) : Vm (d + 6) m_X10_lend [vR (some m), vI v, vI f, vI t, vI dd] (mH h m ad sc ar) K := by
  obtain ⟨n1, n2⟩ := hw.now
  have nl16 := hw.nlw.2
  refine Vm.intro rfl (Nat.le_of_ble_eq_true rfl) (fun _ => B_X10_lend_0 ?_)
  simp only [mCV]
  refine mc_isLoan hA hw.1 (fun c => ?_) (fun c => ?_) <;> simp only [kI_some, kL_some, kR_some, kV_none, ne_eq, not_true_eq_false, not_false_eq_true, true_implies, false_implies, implies_true, true_and, and_true, ab_z01, or_true, true_or, reduceCtorEq, Option.some.injEq, Int.reduceEq, Int.reduceNe, Int.reduceLT, Int.reduceLE, Int.reduceNeg, Int.reduceAdd, Int.reduceSub, Int.reduceMul, Nat.reduceEqDiff, Nat.reduceAdd, Nat.reduceMul, Int.reduceToNat, ↓reduceIte]
  · obtain ⟨k, rfl⟩ := Int.eq_ofNat_of_zero_le c.1
    rw [Int.toNat_natCast] at kk
    have hk : k < no (ar 0) := by omega
    refine mc_areTongues (fun c1 => ?_) (fun c1 => ?_) <;> simp only [kI_some, kL_some, kR_some, kV_none, ne_eq, not_true_eq_false, not_false_eq_true, true_implies, false_implies, implies_true, true_and, and_true, ab_z01, or_true, true_or, reduceCtorEq, Option.some.injEq, Int.reduceEq, Int.reduceNe, Int.reduceLT, Int.reduceLE, Int.reduceNeg, Int.reduceAdd, Int.reduceSub, Int.reduceMul, Nat.reduceEqDiff, Nat.reduceAdd, Nat.reduceMul, Int.reduceToNat, ↓reduceIte]
    · have c0 : 0 ≤ f ∧ f ≤ 3 ∧ 0 ≤ t ∧ t ≤ 3 ∧ f ≠ t := ⟨c1.1.1, c1.1.2, c1.2.1.1, c1.2.1.2, c1.2.2⟩
      refine mc_isDate (fun c2 => ?_) (fun c2 => ?_) <;> simp only [kI_some, kL_some, kR_some, kV_none, ne_eq, not_true_eq_false, not_false_eq_true, true_implies, false_implies, implies_true, true_and, and_true, ab_z01, or_true, true_or, reduceCtorEq, Option.some.injEq, Int.reduceEq, Int.reduceNe, Int.reduceLT, Int.reduceLE, Int.reduceNeg, Int.reduceAdd, Int.reduceSub, Int.reduceMul, Nat.reduceEqDiff, Nat.reduceAdd, Nat.reduceMul, Int.reduceToNat, ↓reduceIte]
      · have hE : lendE (ar 0) (k : Int) f t dd = if ar 0 1 = 12 then some (-5) else none := by
          unfold lendE
          rw [if_neg (fun q => q c), if_neg (fun q => q c0), if_neg (fun q => q c2)]
        simp only [mCV, kI_some, kL_some, kR_some, kV_none, vu_app, mgR_0, mgR_3, mgR_12, mgR_13, mgR_14, mgR_16, mgR_17, mgR_18, mgR_19, mgR_20, mgR_21, mgR_2, mgR_7, mgI_1, mgI_4, mgI_5, mgI_6, mgI_8, mgI_9, mgI_10, mgI_11, mgI_15, mgI_22, mpI_1, mpI_4, mpI_5, mpI_6, mpI_8, mpI_9, mpI_10, mpI_11, mpI_15, mpI_22, mlI_0 hA, mlI_3 hA, mlI_12 hA, mlI_13 hA, mlI_14 hA, mlI_16 hA, mlI_17 hA, mlI_18 hA, mlI_19 hA, mlI_20 hA, mlI_21 hA, msI_0 hA, msI_3 hA, msI_12 hA, msI_13 hA, msI_14 hA, msI_16 hA, msI_17 hA, msI_18 hA, msI_19 hA, msI_20 hA, msI_21 hA, mlZ_2 hA, mlZ_7 hA, msZ_2 hA, msZ_7 hA, kI_some, kL_some, kR_some, kV_none, ne_eq, not_true_eq_false, not_false_eq_true, true_implies, false_implies, implies_true, true_and, and_true, ab_z01, or_true, true_or, reduceCtorEq, Option.some.injEq, Int.reduceEq, Int.reduceNe, Int.reduceLT, Int.reduceLE, Int.reduceNeg, Int.reduceAdd, Int.reduceSub, Int.reduceMul, Nat.reduceEqDiff, Nat.reduceAdd, Nat.reduceMul, Int.reduceToNat, ↓reduceIte]
        refine ⟨fun c3 => ?_, fun c3 => kE (-5) (by rw [hE, if_pos (by simpa using c3)])⟩
        have kk := kk (by rw [hE, if_neg c3])
        refine mc_keepPast hA hu hu8 ?_
        simp only [mCV, kI_some, kL_some, kR_some, kV_none, vu_app, mgR_0, mgR_3, mgR_12, mgR_13, mgR_14, mgR_16, mgR_17, mgR_18, mgR_19, mgR_20, mgR_21, mgR_2, mgR_7, mgI_1, mgI_4, mgI_5, mgI_6, mgI_8, mgI_9, mgI_10, mgI_11, mgI_15, mgI_22, mpI_1, mpI_4, mpI_5, mpI_6, mpI_8, mpI_9, mpI_10, mpI_11, mpI_15, mpI_22, mlI_0 hA, mlI_3 hA, mlI_12 hA, mlI_13 hA, mlI_14 hA, mlI_16 hA, mlI_17 hA, mlI_18 hA, mlI_19 hA, mlI_20 hA, mlI_21 hA, msI_0 hA, msI_3 hA, msI_12 hA, msI_13 hA, msI_14 hA, msI_16 hA, msI_17 hA, msI_18 hA, msI_19 hA, msI_20 hA, msI_21 hA, mlZ_2 hA, mlZ_7 hA, msZ_2 hA, msZ_7 hA, kI_some, kL_some, kR_some, kV_none, ne_eq, not_true_eq_false, not_false_eq_true, true_implies, false_implies, implies_true, true_and, and_true, ab_z01, or_true, true_or, reduceCtorEq, Option.some.injEq, Int.reduceEq, Int.reduceNe, Int.reduceLT, Int.reduceLE, Int.reduceNeg, Int.reduceAdd, Int.reduceSub, Int.reduceMul, Nat.reduceEqDiff, Nat.reduceAdd, Nat.reduceMul, Int.reduceToNat, ↓reduceIte]
        have e0 : ∀ j, j < 394 → kpR (ar 0) u j = ar 0 j := fun j hj => kpR_w hj
        obtain ⟨R, hR⟩ : ∃ R, R = kpR (ar 0) u := ⟨_, rfl⟩
        rw [← hR] at kk e0 ⊢
        have hwR : wV R := hw.cg e0
        have nR : no R = no (ar 0) := no_cg e0
        obtain ⟨N, hN⟩ : ∃ N, N = no (ar 0) := ⟨_, rfl⟩
        rw [← hN] at nR n1 n2 hk
        rw [e0 1 (by decide), ← n1]
        refine mc_loanAt (by omega) ?_
        simp only [mCV, kI_some, kL_some, kR_some, kV_none, vu_app, mgR_0, mgR_3, mgR_12, mgR_13, mgR_14, mgR_16, mgR_17, mgR_18, mgR_19, mgR_20, mgR_21, mgR_2, mgR_7, mgI_1, mgI_4, mgI_5, mgI_6, mgI_8, mgI_9, mgI_10, mgI_11, mgI_15, mgI_22, mpI_1, mpI_4, mpI_5, mpI_6, mpI_8, mpI_9, mpI_10, mpI_11, mpI_15, mpI_22, mlI_0 hA, mlI_3 hA, mlI_12 hA, mlI_13 hA, mlI_14 hA, mlI_16 hA, mlI_17 hA, mlI_18 hA, mlI_19 hA, mlI_20 hA, mlI_21 hA, msI_0 hA, msI_3 hA, msI_12 hA, msI_13 hA, msI_14 hA, msI_16 hA, msI_17 hA, msI_18 hA, msI_19 hA, msI_20 hA, msI_21 hA, mlZ_2 hA, mlZ_7 hA, msZ_2 hA, msZ_7 hA, kI_some, kL_some, kR_some, kV_none, ne_eq, not_true_eq_false, not_false_eq_true, true_implies, false_implies, implies_true, true_and, and_true, ab_z01, or_true, true_or, reduceCtorEq, Option.some.injEq, Int.reduceEq, Int.reduceNe, Int.reduceLT, Int.reduceLE, Int.reduceNeg, Int.reduceAdd, Int.reduceSub, Int.reduceMul, Nat.reduceEqDiff, Nat.reduceAdd, Nat.reduceMul, Int.reduceToNat, ↓reduceIte, vu_up]
        rw [e0 1 (by decide), ← n1]
        repeat (first | refine And.intro (by omega) ?_ | refine And.intro (i3 (by omega) (by omega)) ?_)
        obtain ⟨sc1, hsc1⟩ : ∃ s, s = va_up sc 1 (kpU u : Int) := ⟨_, rfl⟩
        rw [← hsc1] at kk ⊢
        -- the word
        obtain ⟨R1, hR1⟩ : ∃ R1 : Nat → Int, R1 = fun j => if j = 1 then (N : Int) + 1 else if 130 + 22 * N + 2 ≤ j ∧ j < 130 + 22 * N + 12 then R (130 + 22 * k + (j - (130 + 22 * N))) else R j := ⟨_, rfl⟩
        have r1 : ∀ j, R1 j = if j = 1 then (N : Int) + 1 else if 130 + 22 * N + 2 ≤ j ∧ j < 130 + 22 * N + 12 then R (130 + 22 * k + (j - (130 + 22 * N))) else R j := fun j => by rw [hR1]
        -- behind the word: the end
        have F72 : Vx (d + 6) m_X10_lend 0 0 72 [some (vR (some m)), some (vI (k : Int)), some (vI f), some (vI t), some (vI dd), some (vI (130 + 22 * (N : Int))), some (vI 12)] [] (mH h m ad sc1 (va_up ar 0 R1)) K := by
          refine B_X10_lend_72 ⟨fun _ => ?_, fun c => absurd (by decide) c⟩
          simp only [mCV]
          -- takes works on the row as it is now
          have hR1w : ∀ j, j < 130 + 22 * N → j ≠ 1 → R1 j = R j := fun j h1 h2 => by rw [r1, if_neg h2, if_neg (by omega)]
          have hA1 : ∀ j, j < 98 → j ≠ 1 → R1 j = ar 0 j := fun j h1 h2 => by rw [hR1w _ (by omega) h2, e0 _ (by omega)]
          have hlo : ∀ j, j < 22 → lo R1 k j = lo (ar 0) k j := fun j hj => by
            show R1 _ = ar 0 _
            rw [hR1w _ (by omega) (by omega), e0 _ (by omega)]
          have hloan := hw.2.2.2.2 k (by omega)
          have hnl1 : nl R1 = nl (ar 0) := by unfold nl; rw [hA1 0 (by omega) (by decide)]
          have hwL : wL R1 := by
            refine ⟨by rw [hA1 0 (by omega) (by decide)]; exact hw.1.1, fun x hx => ?_⟩
            rw [hnl1] at hx
            have z : ∀ j, j < 6 → lw R1 x j = lw (ar 0) x j := fun j hj => hA1 _ (by omega) (by omega)
            rw [z 0 (by decide), z 1 (by decide), z 2 (by decide), z 3 (by decide), z 4 (by decide), z 5 (by decide)]
            exact hw.2.1 x hx
          have hlV : loanV R1 k := by
            obtain ⟨g1, g2, g3, g4, g5, g6, g7⟩ := hloan
            unfold loanV
            rw [hlo 0 (by decide), hlo 1 (by decide), hlo 2 (by decide), hlo 3 (by decide)]
            exact ⟨g1, g2, g3, g4, g5, fun i hi => by rw [hlo _ (by omega)]; exact g6 i hi, fun i hi => by rw [hlo _ (by omega)]; exact g7 i hi⟩
          refine mc_takes hA (by rw [vu_same]; exact hwL) (by omega) (by rw [vu_same]; exact hlV) (fun sc2 ar2 hE2 hF2 => ?_)
          rw [vu_same, borr_cg hA1 nl16, word_cg hlo (by have := hloan.2.2.2.1; omega)] at hF2
          have a0 : ar2 0 = R1 := by rw [hE2.2 0 (by decide), vu_same]
          obtain ⟨L, hL⟩ : ∃ L, L = borr (ar 0) f t dd (word (ar 0) k) := ⟨_, rfl⟩
          rw [← hL] at hF2 kk
          have hLV : fV L := by rw [hL]; exact borr_V hw.L (word_V hloan)
          have hL10 := hLV.1
          have q0 : (130 + 22 * (N : Int) + 0).toNat = 130 + 22 * N := by omega
          have q1 : (130 + 22 * (N : Int) + 1).toNat = 130 + 22 * N + 1 := by omega
          have q3 : (130 + 22 * (N : Int) + 3).toNat = 130 + 22 * N + 3 := by omega
          simp only [mCV, kI_some, kL_some, kR_some, kV_none, vu_app, mgR_0, mgR_3, mgR_12, mgR_13, mgR_14, mgR_16, mgR_17, mgR_18, mgR_19, mgR_20, mgR_21, mgR_2, mgR_7, mgI_1, mgI_4, mgI_5, mgI_6, mgI_8, mgI_9, mgI_10, mgI_11, mgI_15, mgI_22, mpI_1, mpI_4, mpI_5, mpI_6, mpI_8, mpI_9, mpI_10, mpI_11, mpI_15, mpI_22, mlI_0 hA, mlI_3 hA, mlI_12 hA, mlI_13 hA, mlI_14 hA, mlI_16 hA, mlI_17 hA, mlI_18 hA, mlI_19 hA, mlI_20 hA, mlI_21 hA, msI_0 hA, msI_3 hA, msI_12 hA, msI_13 hA, msI_14 hA, msI_16 hA, msI_17 hA, msI_18 hA, msI_19 hA, msI_20 hA, msI_21 hA, mlZ_2 hA, mlZ_7 hA, msZ_2 hA, msZ_7 hA, kI_some, kL_some, kR_some, kV_none, ne_eq, not_true_eq_false, not_false_eq_true, true_implies, false_implies, implies_true, true_and, and_true, ab_z01, or_true, true_or, reduceCtorEq, Option.some.injEq, Int.reduceEq, Int.reduceNe, Int.reduceLT, Int.reduceLE, Int.reduceNeg, Int.reduceAdd, Int.reduceSub, Int.reduceMul, Nat.reduceEqDiff, Nat.reduceAdd, Nat.reduceMul, Int.reduceToNat, ↓reduceIte, q0, q1, q3, hF2.1, vu_up, a0]
          repeat (first | refine And.intro (by omega) ?_ | refine And.intro (i3 (by omega) (by omega)) ?_)
          obtain ⟨R2, hR2⟩ : ∃ R2, R2 = va_up (va_up (va_up R1 (130 + 22 * N) f) (130 + 22 * N + 1) t) (130 + 22 * N + 3) (L.length : Int) := ⟨_, rfl⟩
          rw [← hR2]
          have P := lp_up (P := fun i => Vx (d + 6) m_X10_lend 0 0 152 [some (vR (some m)), some (vI (k : Int)), some (vI f), some (vI t), some (vI dd), some (vI (130 + 22 * (N : Int))), some (vI (i : Int))] [] (mH h m ad sc2 (va_up ar2 0 (fun j => if 130 + 22 * N + 12 ≤ j ∧ j < 130 + 22 * N + 12 + i then L.getD (j - (130 + 22 * N + 12)) 0 else R2 j))) K) (n := L.length) ?_ ?_ 0 (by omega)
          · have e : (fun j => if 130 + 22 * N + 12 ≤ j ∧ j < 130 + 22 * N + 12 + 0 then L.getD (j - (130 + 22 * N + 12)) 0 else R2 j) = R2 := funext fun j => if_neg (by omega)
            rw [e] at P
            exact P
          · refine B_X10_lend_152 ?_
            simp only [mCV, kI_some, kL_some, kR_some, kV_none, vu_app, mgR_0, mgR_3, mgR_12, mgR_13, mgR_14, mgR_16, mgR_17, mgR_18, mgR_19, mgR_20, mgR_21, mgR_2, mgR_7, mgI_1, mgI_4, mgI_5, mgI_6, mgI_8, mgI_9, mgI_10, mgI_11, mgI_15, mgI_22, mpI_1, mpI_4, mpI_5, mpI_6, mpI_8, mpI_9, mpI_10, mpI_11, mpI_15, mpI_22, mlI_0 hA, mlI_3 hA, mlI_12 hA, mlI_13 hA, mlI_14 hA, mlI_16 hA, mlI_17 hA, mlI_18 hA, mlI_19 hA, mlI_20 hA, mlI_21 hA, msI_0 hA, msI_3 hA, msI_12 hA, msI_13 hA, msI_14 hA, msI_16 hA, msI_17 hA, msI_18 hA, msI_19 hA, msI_20 hA, msI_21 hA, mlZ_2 hA, mlZ_7 hA, msZ_2 hA, msZ_7 hA, kI_some, kL_some, kR_some, kV_none, ne_eq, not_true_eq_false, not_false_eq_true, true_implies, false_implies, implies_true, true_and, and_true, ab_z01, or_true, true_or, reduceCtorEq, Option.some.injEq, Int.reduceEq, Int.reduceNe, Int.reduceLT, Int.reduceLE, Int.reduceNeg, Int.reduceAdd, Int.reduceSub, Int.reduceMul, Nat.reduceEqDiff, Nat.reduceAdd, Nat.reduceMul, Int.reduceToNat, ↓reduceIte, hF2.1]
            refine ⟨fun _ => ?_, fun c => absurd (by omega) c⟩
            have e : (fun j => if 130 + 22 * N + 12 ≤ j ∧ j < 130 + 22 * N + 12 + L.length then L.getD (j - (130 + 22 * N + 12)) 0 else R2 j) = lndW R k f t L := by
              funext j
              rw [lndW_app, nR, hR2]
              simp only [vu_app, r1]
              rw [e0 1 (by decide), ← n1]
              (repeat' split) <;> first | rfl | (exfalso; omega)
            rw [e]
            have z1 : lndW R k f t L 1 = ar 0 1 + 1 := by rw [lndW_app, if_pos rfl, e0 1 (by decide)]
            have z2 := (congrFun e 1).trans z1
            rw [z2]
            refine kk sc2 _ ⟨fun j hj => hE2.1 j hj, fun j hj => ?_⟩
            by_cases q : j = 0
            · rw [q, vu_same, vu_same]
            · rw [vu_ne q, vu_ne q, hE2.2 j hj, vu_ne q]
          · intro i hi ih
            refine B_X10_lend_152 ?_
            have q12 : (130 + 22 * (N : Int) + 12 + (i : Int)).toNat = 130 + 22 * N + 12 + i := by omega
            simp only [mCV, kI_some, kL_some, kR_some, kV_none, vu_app, mgR_0, mgR_3, mgR_12, mgR_13, mgR_14, mgR_16, mgR_17, mgR_18, mgR_19, mgR_20, mgR_21, mgR_2, mgR_7, mgI_1, mgI_4, mgI_5, mgI_6, mgI_8, mgI_9, mgI_10, mgI_11, mgI_15, mgI_22, mpI_1, mpI_4, mpI_5, mpI_6, mpI_8, mpI_9, mpI_10, mpI_11, mpI_15, mpI_22, mlI_0 hA, mlI_3 hA, mlI_12 hA, mlI_13 hA, mlI_14 hA, mlI_16 hA, mlI_17 hA, mlI_18 hA, mlI_19 hA, mlI_20 hA, mlI_21 hA, msI_0 hA, msI_3 hA, msI_12 hA, msI_13 hA, msI_14 hA, msI_16 hA, msI_17 hA, msI_18 hA, msI_19 hA, msI_20 hA, msI_21 hA, mlZ_2 hA, mlZ_7 hA, msZ_2 hA, msZ_7 hA, kI_some, kL_some, kR_some, kV_none, ne_eq, not_true_eq_false, not_false_eq_true, true_implies, false_implies, implies_true, true_and, and_true, ab_z01, or_true, true_or, reduceCtorEq, Option.some.injEq, Int.reduceEq, Int.reduceNe, Int.reduceLT, Int.reduceLE, Int.reduceNeg, Int.reduceAdd, Int.reduceSub, Int.reduceMul, Nat.reduceEqDiff, Nat.reduceAdd, Nat.reduceMul, Int.reduceToNat, ↓reduceIte, hF2.1, q12, Int.toNat_natCast, hF2.2 i hi, vu_up]
            refine ⟨fun c => absurd c (by omega), fun _ => ?_⟩
            repeat (first | refine And.intro (by omega) ?_ | refine And.intro (i3 (by omega) (by omega)) ?_)
            have e : va_up (fun j => if 130 + 22 * N + 12 ≤ j ∧ j < 130 + 22 * N + 12 + i then L.getD (j - (130 + 22 * N + 12)) 0 else R2 j) (130 + 22 * N + 12 + i) (L.getD i 0) = (fun j => if 130 + 22 * N + 12 ≤ j ∧ j < 130 + 22 * N + 12 + (i + 1) then L.getD (j - (130 + 22 * N + 12)) 0 else R2 j) := by
              funext j
              rw [vu_app]
              by_cases q : j = 130 + 22 * N + 12 + i
              · subst q
                rw [if_pos rfl, if_pos (by omega), show 130 + 22 * N + 12 + i - (130 + 22 * N + 12) = i by omega]
              · rw [if_neg q]
                by_cases q2 : 130 + 22 * N + 12 ≤ j ∧ j < 130 + 22 * N + 12 + i
                · rw [if_pos q2, if_pos (by omega)]
                · rw [if_neg q2, if_neg (by omega)]
            rw [e]
            exact ih
        have P := lp_up (P := fun i => 2 ≤ i → Vx (d + 6) m_X10_lend 0 0 72 [some (vR (some m)), some (vI (k : Int)), some (vI f), some (vI t), some (vI dd), some (vI (130 + 22 * (N : Int))), some (vI (i : Int))] [] (mH h m ad sc1 (va_up ar 0 (fun j => if j = 1 then (N : Int) + 1 else if 130 + 22 * N + 2 ≤ j ∧ j < 130 + 22 * N + i then R (130 + 22 * k + (j - (130 + 22 * N))) else R j))) K) (n := 12) ?_ ?_ 2 (by omega) (by omega)
        · have e : (fun j => if j = 1 then (N : Int) + 1 else if 130 + 22 * N + 2 ≤ j ∧ j < 130 + 22 * N + 2 then R (130 + 22 * k + (j - (130 + 22 * N))) else R j) = va_up R 1 ((N : Int) + 1) := by
            funext j
            rw [vu_app]
            by_cases q : j = 1
            · rw [if_pos q, if_pos q]
            · rw [if_neg q, if_neg q, if_neg (by omega)]
          rw [e] at P
          exact P
        · intro _
          rw [← hR1]
          exact F72
        · intro i hi ih h2
          refine B_X10_lend_72 ⟨fun c => absurd c (by omega), fun _ => ?_⟩
          simp only [mCV, kI_some, kL_some, kR_some, kV_none, vu_app, mgR_0, mgR_3, mgR_12, mgR_13, mgR_14, mgR_16, mgR_17, mgR_18, mgR_19, mgR_20, mgR_21, mgR_2, mgR_7, mgI_1, mgI_4, mgI_5, mgI_6, mgI_8, mgI_9, mgI_10, mgI_11, mgI_15, mgI_22, mpI_1, mpI_4, mpI_5, mpI_6, mpI_8, mpI_9, mpI_10, mpI_11, mpI_15, mpI_22, mlI_0 hA, mlI_3 hA, mlI_12 hA, mlI_13 hA, mlI_14 hA, mlI_16 hA, mlI_17 hA, mlI_18 hA, mlI_19 hA, mlI_20 hA, mlI_21 hA, msI_0 hA, msI_3 hA, msI_12 hA, msI_13 hA, msI_14 hA, msI_16 hA, msI_17 hA, msI_18 hA, msI_19 hA, msI_20 hA, msI_21 hA, mlZ_2 hA, mlZ_7 hA, msZ_2 hA, msZ_7 hA, kI_some, kL_some, kR_some, kV_none, ne_eq, not_true_eq_false, not_false_eq_true, true_implies, false_implies, implies_true, true_and, and_true, ab_z01, or_true, true_or, reduceCtorEq, Option.some.injEq, Int.reduceEq, Int.reduceNe, Int.reduceLT, Int.reduceLE, Int.reduceNeg, Int.reduceAdd, Int.reduceSub, Int.reduceMul, Nat.reduceEqDiff, Nat.reduceAdd, Nat.reduceMul, Int.reduceToNat, ↓reduceIte]
          repeat (first | refine And.intro (by omega) ?_ | refine And.intro (i3 (by omega) (by omega)) ?_)
          refine mc_loanAt (by omega) ?_
          have q1 : (130 + 22 * (k : Int) + (i : Int)).toNat = 130 + 22 * k + i := by omega
          have q2 : (130 + 22 * (N : Int) + (i : Int)).toNat = 130 + 22 * N + i := by omega
          simp only [mCV, kI_some, kL_some, kR_some, kV_none, vu_app, mgR_0, mgR_3, mgR_12, mgR_13, mgR_14, mgR_16, mgR_17, mgR_18, mgR_19, mgR_20, mgR_21, mgR_2, mgR_7, mgI_1, mgI_4, mgI_5, mgI_6, mgI_8, mgI_9, mgI_10, mgI_11, mgI_15, mgI_22, mpI_1, mpI_4, mpI_5, mpI_6, mpI_8, mpI_9, mpI_10, mpI_11, mpI_15, mpI_22, mlI_0 hA, mlI_3 hA, mlI_12 hA, mlI_13 hA, mlI_14 hA, mlI_16 hA, mlI_17 hA, mlI_18 hA, mlI_19 hA, mlI_20 hA, mlI_21 hA, msI_0 hA, msI_3 hA, msI_12 hA, msI_13 hA, msI_14 hA, msI_16 hA, msI_17 hA, msI_18 hA, msI_19 hA, msI_20 hA, msI_21 hA, mlZ_2 hA, mlZ_7 hA, msZ_2 hA, msZ_7 hA, kI_some, kL_some, kR_some, kV_none, ne_eq, not_true_eq_false, not_false_eq_true, true_implies, false_implies, implies_true, true_and, and_true, ab_z01, or_true, true_or, reduceCtorEq, Option.some.injEq, Int.reduceEq, Int.reduceNe, Int.reduceLT, Int.reduceLE, Int.reduceNeg, Int.reduceAdd, Int.reduceSub, Int.reduceMul, Nat.reduceEqDiff, Nat.reduceAdd, Nat.reduceMul, Int.reduceToNat, ↓reduceIte, q1, q2, vu_up]
          repeat (first | refine And.intro (by omega) ?_ | refine And.intro (i3 (by omega) (by omega)) ?_)
          rw [if_neg (by omega), if_neg (by omega)]
          have e : va_up (fun j => if j = 1 then (N : Int) + 1 else if 130 + 22 * N + 2 ≤ j ∧ j < 130 + 22 * N + i then R (130 + 22 * k + (j - (130 + 22 * N))) else R j) (130 + 22 * N + i) (R (130 + 22 * k + i)) = (fun j => if j = 1 then (N : Int) + 1 else if 130 + 22 * N + 2 ≤ j ∧ j < 130 + 22 * N + (i + 1) then R (130 + 22 * k + (j - (130 + 22 * N))) else R j) := by
            funext j
            rw [vu_app]
            by_cases q : j = 130 + 22 * N + i
            · subst q
              rw [if_pos rfl, if_neg (by omega), if_pos (by omega)]
              exact congrArg R (by omega)
            · rw [if_neg q]
              by_cases q0 : j = 1
              · rw [if_pos q0, if_pos q0]
              · rw [if_neg q0, if_neg q0]
                by_cases q2 : 130 + 22 * N + 2 ≤ j ∧ j < 130 + 22 * N + i
                · rw [if_pos q2, if_pos (by omega)]
                · rw [if_neg q2, if_neg (by omega)]
          rw [e]
          exact ih (by omega)
      · exact kE (-3) (by unfold lendE; rw [if_neg (fun q => q c), if_neg (fun q => q c0), if_pos c2])
    · exact kE (-2) (by unfold lendE; rw [if_neg (fun q => q c), if_pos (fun q => c1 ⟨⟨q.1, q.2.1⟩, ⟨q.2.2.1, q.2.2.2.1⟩, q.2.2.2.2⟩)])
  · exact kE (-2) (if_pos c)
