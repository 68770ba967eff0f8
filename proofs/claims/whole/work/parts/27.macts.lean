/-! rows of the model as calls change them -/
def cpR (R : Nat → Int) (f t : Nat) : Nat → Int := fun j => if t ≤ j ∧ j < t + 394 then R (f + (j - t)) else R j
def shP (R : Nat → Int) : Nat → Int := fun j => if 394 ≤ j ∧ j < 3152 then R (j + 394) else R j
def kpR (R : Nat → Int) (u : Nat) : Nat → Int := if u = 8 then cpR (shP R) 0 3152 else cpR R 0 (394 + 394 * u)
def kpU (u : Nat) : Nat := if u = 8 then 8 else u + 1
def shL (R : Nat → Int) (a n : Nat) : Nat → Int := fun j => if 2 + 6 * (a + 1) ≤ j ∧ j < 2 + 6 * (n + 1) then R (j - 6) else R j
def insW (R : Nat → Int) (n p : Nat) (f : Nat → Int) : Nat → Int := fun j => if j = 0 then R 0 + 1 else if 2 + 6 * p ≤ j ∧ j < 2 + 6 * p + 6 then f (j - (2 + 6 * p)) else shL R p n j
def lfs (t d x y e z : Int) : Nat → Int
  | 0 => t
  | 1 => d
  | 2 => x
  | 3 => y
  | 4 => e
  | _ => if e = 0 then -1 else z
/-- the place of a law among the first n -/
def posL (w : Nat → Int) (t d : Int) : Nat → Nat
  | 0 => 0
  | n + 1 => if d < lw w n 1 ∨ (lw w n 1 = d ∧ t < lw w n 0) then posL w t d n else n + 1
theorem posL_le (w : Nat → Int) (t d : Int) : ∀ n, posL w t d n ≤ n
  | 0 => Nat.le_refl _
  | n + 1 => by
    have := posL_le w t d n
    unfold posL
    split <;> omega
def hasL (w : Nat → Int) (t d : Int) : Nat → Bool
  | 0 => false
  | n + 1 => hasL w t d n || decide (lw w n 0 = t ∧ lw w n 1 = d)
def delW (R : Nat → Int) (k : Nat) : Nat → Int := fun j => if j = 0 then R 0 - 1 else if 2 + 6 * k ≤ j ∧ (j : Int) < 2 + 6 * (R 0 - 1) then R (j + 6) else R j
def delO (R : Nat → Int) (k : Nat) : Nat → Int := fun j => if j = 1 then R 1 - 1 else if 130 + 22 * k ≤ j ∧ (j : Int) < 130 + 22 * (R 1 - 1) then R (j + 22) else R j
def setM (R : Nat → Int) (f t : Int) (a b : Int) : Nat → Int := va_up (va_up R (98 + 2 * (4 * f.toNat + t.toNat)) a) (98 + 2 * (4 * f.toNat + t.toNat) + 1) b
theorem cpR_app {R : Nat → Int} {f t j : Nat} : cpR R f t j = if t ≤ j ∧ j < t + 394 then R (f + (j - t)) else R j := rfl
theorem shP_app {R : Nat → Int} {j : Nat} : shP R j = if 394 ≤ j ∧ j < 3152 then R (j + 394) else R j := rfl
theorem shL_app {R : Nat → Int} {a n j : Nat} : shL R a n j = if 2 + 6 * (a + 1) ≤ j ∧ j < 2 + 6 * (n + 1) then R (j - 6) else R j := rfl
theorem insW_app {R : Nat → Int} {n p j : Nat} {f : Nat → Int} : insW R n p f j = if j = 0 then R 0 + 1 else if 2 + 6 * p ≤ j ∧ j < 2 + 6 * p + 6 then f (j - (2 + 6 * p)) else shL R p n j := rfl
theorem kpR_8 {R : Nat → Int} {u : Nat} (h : u = 8) : kpR R u = cpR (shP R) 0 3152 := if_pos h
theorem kpR_n {R : Nat → Int} {u : Nat} (h : ¬ u = 8) : kpR R u = cpR R 0 (394 + 394 * u) := if_neg h
theorem kpU_8 {u : Nat} (h : u = 8) : kpU u = 8 := if_pos h
theorem kpU_n {u : Nat} (h : ¬ u = 8) : kpU u = u + 1 := if_neg h
theorem kpR_w {R : Nat → Int} {u j : Nat} (h : j < 394) : kpR R u j = R j := by
  by_cases h8 : u = 8
  · rw [kpR_8 h8, cpR_app, if_neg (by omega), shP_app, if_neg (by omega)]
  · rw [kpR_n h8, cpR_app, if_neg (by omega)]
theorem kpR_k {R : Nat → Int} {u j : Nat} (h : 3546 ≤ j) (hu : u ≤ 8) : kpR R u j = R j := by
  by_cases h8 : u = 8
  · rw [kpR_8 h8, cpR_app, if_neg (by omega), shP_app, if_neg (by omega)]
  · rw [kpR_n h8, cpR_app, if_neg (by omega)]
/-- what lies in the past, behind an act -/
theorem kpR_p {R : Nat → Int} {u i j : Nat} (hu : u ≤ 8) (hi : i < kpU u) (hj : j < 394) : kpR R u (394 + 394 * i + j) = if i + 1 = kpU u then R j else if u = 8 then R (394 + 394 * (i + 1) + j) else R (394 + 394 * i + j) := by
  by_cases h8 : u = 8
  · rw [kpU_8 h8] at hi ⊢
    rw [kpR_8 h8, if_pos h8, cpR_app]
    by_cases e : i + 1 = 8
    · rw [if_pos (by omega), if_pos e, shP_app, if_neg (by omega)]
      exact congrArg R (by omega)
    · rw [if_neg (by omega), if_neg e, shP_app, if_pos (by omega)]
      exact congrArg R (by omega)
  · rw [kpU_n h8] at hi ⊢
    rw [kpR_n h8, if_neg h8, cpR_app]
    by_cases e : i + 1 = u + 1
    · rw [if_pos (by omega), if_pos e]
      exact congrArg R (by omega)
    · rw [if_neg (by omega), if_neg e]
set_option maxRecDepth 100000 in
set_option maxHeartbeats 4000000 in
theorem mc_copyRow {d : Nat} {h : AbH} {m : Nat} {ad : Nat → Nat} {sc : Nat → Int} {ar : Nat → Nat → Int} {K : Option AbV → AbH → Prop} (hA : mA ad) {f t : Nat} (hf : f + 394 ≤ 4334) (ht : t + 394 ≤ 4334) (hd : f + 394 ≤ t ∨ t + 394 ≤ f) (kk : K none (mH h m ad sc (va_up ar 0 (cpR (ar 0) f t)))) : Vm (d + 1) m_X10_copyRow [vR (some m), vI (f : Int), vI (t : Int)] (mH h m ad sc ar) K := by
  refine Vm.intro rfl (Nat.le_of_ble_eq_true rfl) (fun _ => B_X10_copyRow_0 ?_)
  have P := lp_up (P := fun i => Vx (d + 1) m_X10_copyRow 0 0 2 [some (vR (some m)), some (vI (f : Int)), some (vI (t : Int)), some (vI (i : Int))] [] (mH h m ad sc (va_up ar 0 (fun j => if t ≤ j ∧ j < t + i then ar 0 (f + (j - t)) else ar 0 j))) K) (n := 394) ?_ ?_ 0 (by omega)
  · have e : (fun j => if t ≤ j ∧ j < t + 0 then ar 0 (f + (j - t)) else ar 0 j) = ar 0 := funext fun j => if_neg (by omega)
    rw [e, vu_self] at P
    exact P
  · exact B_X10_copyRow_2 ⟨fun _ => kk, fun c => absurd (by decide) c⟩
  · intro i hi ih
    refine B_X10_copyRow_2 ⟨fun c => absurd c (by omega), fun _ => ?_⟩
    simp only [mCV, kI_some, kL_some, kR_some, kV_none, vu_app, mgR_0, mgR_3, mgR_12, mgR_13, mgR_14, mgR_16, mgR_17, mgR_18, mgR_19, mgR_20, mgR_21, mgR_2, mgR_7, mgI_1, mgI_4, mgI_5, mgI_6, mgI_8, mgI_9, mgI_10, mgI_11, mgI_15, mgI_22, mpI_1, mpI_4, mpI_5, mpI_6, mpI_8, mpI_9, mpI_10, mpI_11, mpI_15, mpI_22, mlI_0 hA, mlI_3 hA, mlI_12 hA, mlI_13 hA, mlI_14 hA, mlI_16 hA, mlI_17 hA, mlI_18 hA, mlI_19 hA, mlI_20 hA, mlI_21 hA, msI_0 hA, msI_3 hA, msI_12 hA, msI_13 hA, msI_14 hA, msI_16 hA, msI_17 hA, msI_18 hA, msI_19 hA, msI_20 hA, msI_21 hA, mlZ_2 hA, mlZ_7 hA, msZ_2 hA, msZ_7 hA, kI_some, kL_some, kR_some, kV_none, ne_eq, not_true_eq_false, not_false_eq_true, true_implies, false_implies, implies_true, true_and, and_true, ab_z01, or_true, true_or, reduceCtorEq, Option.some.injEq, Int.reduceEq, Int.reduceNe, Int.reduceLT, Int.reduceLE, Int.reduceNeg, Int.reduceAdd, Int.reduceSub, Int.reduceMul, Nat.reduceEqDiff, Nat.reduceAdd, Nat.reduceMul, Int.reduceToNat, ↓reduceIte]
    repeat (first | refine And.intro (by omega) ?_ | refine And.intro (i3 (by omega) (by omega)) ?_)
    have e1 : ((f : Int) + (i : Int)).toNat = f + i := by omega
    have e2 : ((t : Int) + (i : Int)).toNat = t + i := by omega
    rw [e1, e2, vu_up, if_neg (by omega)]
    have e : va_up (fun j => if t ≤ j ∧ j < t + i then ar 0 (f + (j - t)) else ar 0 j) (t + i) (ar 0 (f + i)) = (fun j => if t ≤ j ∧ j < t + (i + 1) then ar 0 (f + (j - t)) else ar 0 j) := by
      funext j
      rw [vu_app]
      by_cases q : j = t + i
      · subst q
        rw [if_pos rfl, if_pos (by omega)]
        congr 1
        omega
      · rw [if_neg q]
        by_cases q2 : t ≤ j ∧ j < t + i
        · rw [if_pos q2, if_pos (by omega)]
        · rw [if_neg q2, if_neg (by omega)]
    rw [e]
    exact ih
set_option maxRecDepth 100000 in
set_option maxHeartbeats 4000000 in
theorem mc_keepPast {d : Nat} {h : AbH} {m : Nat} {ad : Nat → Nat} {sc : Nat → Int} {ar : Nat → Nat → Int} {K : Option AbV → AbH → Prop} (hA : mA ad) {u : Nat} (hu : sc 1 = (u : Int)) (hu8 : u ≤ 8) (kk : K none (mH h m ad (va_up sc 1 (kpU u : Int)) (va_up ar 0 (kpR (ar 0) u)))) : Vm (d + 2) m_X10_keepPast [vR (some m)] (mH h m ad sc ar) K := by
  refine Vm.intro rfl (Nat.le_of_ble_eq_true rfl) (fun _ => B_X10_keepPast_0 ?_)
  by_cases h8 : u = 8
  · have F44 : ∀ x : Int, Vx (d + 2) m_X10_keepPast 0 0 44 [some (vR (some m)), some (vI x)] [] (mH h m ad sc (va_up ar 0 (shP (ar 0)))) K := by
      intro x
      refine B_X10_keepPast_44 ?_
      simp only [mCV, kI_some, kL_some, kR_some, kV_none, vu_app, mgR_0, mgR_3, mgR_12, mgR_13, mgR_14, mgR_16, mgR_17, mgR_18, mgR_19, mgR_20, mgR_21, mgR_2, mgR_7, mgI_1, mgI_4, mgI_5, mgI_6, mgI_8, mgI_9, mgI_10, mgI_11, mgI_15, mgI_22, mpI_1, mpI_4, mpI_5, mpI_6, mpI_8, mpI_9, mpI_10, mpI_11, mpI_15, mpI_22, mlI_0 hA, mlI_3 hA, mlI_12 hA, mlI_13 hA, mlI_14 hA, mlI_16 hA, mlI_17 hA, mlI_18 hA, mlI_19 hA, mlI_20 hA, mlI_21 hA, msI_0 hA, msI_3 hA, msI_12 hA, msI_13 hA, msI_14 hA, msI_16 hA, msI_17 hA, msI_18 hA, msI_19 hA, msI_20 hA, msI_21 hA, mlZ_2 hA, mlZ_7 hA, msZ_2 hA, msZ_7 hA, kI_some, kL_some, kR_some, kV_none, ne_eq, not_true_eq_false, not_false_eq_true, true_implies, false_implies, implies_true, true_and, and_true, ab_z01, or_true, true_or, reduceCtorEq, Option.some.injEq, Int.reduceEq, Int.reduceNe, Int.reduceLT, Int.reduceLE, Int.reduceNeg, Int.reduceAdd, Int.reduceSub, Int.reduceMul, Nat.reduceEqDiff, Nat.reduceAdd, Nat.reduceMul, Int.reduceToNat, ↓reduceIte, hu]
      refine ⟨fun c => absurd (by omega) c, fun _ => ?_⟩
      subst h8
      repeat (first | refine And.intro (by omega) ?_ | refine And.intro (i3 (by omega) (by omega)) ?_)
      refine mc_copyRow hA (f := 0) (t := 3152) (by decide) (by decide) (by decide) ?_
      simp only [mCV, kI_some, kL_some, kR_some, kV_none, vu_app, mgR_0, mgR_3, mgR_12, mgR_13, mgR_14, mgR_16, mgR_17, mgR_18, mgR_19, mgR_20, mgR_21, mgR_2, mgR_7, mgI_1, mgI_4, mgI_5, mgI_6, mgI_8, mgI_9, mgI_10, mgI_11, mgI_15, mgI_22, mpI_1, mpI_4, mpI_5, mpI_6, mpI_8, mpI_9, mpI_10, mpI_11, mpI_15, mpI_22, mlI_0 hA, mlI_3 hA, mlI_12 hA, mlI_13 hA, mlI_14 hA, mlI_16 hA, mlI_17 hA, mlI_18 hA, mlI_19 hA, mlI_20 hA, mlI_21 hA, msI_0 hA, msI_3 hA, msI_12 hA, msI_13 hA, msI_14 hA, msI_16 hA, msI_17 hA, msI_18 hA, msI_19 hA, msI_20 hA, msI_21 hA, mlZ_2 hA, mlZ_7 hA, msZ_2 hA, msZ_7 hA, kI_some, kL_some, kR_some, kV_none, ne_eq, not_true_eq_false, not_false_eq_true, true_implies, false_implies, implies_true, true_and, and_true, ab_z01, or_true, true_or, reduceCtorEq, Option.some.injEq, Int.reduceEq, Int.reduceNe, Int.reduceLT, Int.reduceLE, Int.reduceNeg, Int.reduceAdd, Int.reduceSub, Int.reduceMul, Nat.reduceEqDiff, Nat.reduceAdd, Nat.reduceMul, Int.reduceToNat, ↓reduceIte, vu_up]
      repeat (first | refine And.intro (by omega) ?_ | refine And.intro (i3 (by omega) (by omega)) ?_)
      rw [kpR_8 rfl, kpU_8 rfl] at kk
      exact kk
    have P := lp_up (P := fun i => Vx (d + 2) m_X10_keepPast 0 0 2 [some (vR (some m)), some (vI (i : Int))] [] (mH h m ad sc (va_up ar 0 (fun j => if 394 ≤ j ∧ j < 394 + i then ar 0 (j + 394) else ar 0 j))) K) (n := 2758) ?_ ?_ 0 (by omega)
    · have e : (fun j => if 394 ≤ j ∧ j < 394 + 0 then ar 0 (j + 394) else ar 0 j) = ar 0 := funext fun j => if_neg (by omega)
      rw [e, vu_self] at P
      exact P
    · exact B_X10_keepPast_2 ⟨fun _ => F44 _, fun c => absurd (by decide) c⟩
    · intro i hi ih
      refine B_X10_keepPast_2 ⟨fun c => absurd c (by omega), fun _ => ?_⟩
      simp only [mCV, kI_some, kL_some, kR_some, kV_none, vu_app, mgR_0, mgR_3, mgR_12, mgR_13, mgR_14, mgR_16, mgR_17, mgR_18, mgR_19, mgR_20, mgR_21, mgR_2, mgR_7, mgI_1, mgI_4, mgI_5, mgI_6, mgI_8, mgI_9, mgI_10, mgI_11, mgI_15, mgI_22, mpI_1, mpI_4, mpI_5, mpI_6, mpI_8, mpI_9, mpI_10, mpI_11, mpI_15, mpI_22, mlI_0 hA, mlI_3 hA, mlI_12 hA, mlI_13 hA, mlI_14 hA, mlI_16 hA, mlI_17 hA, mlI_18 hA, mlI_19 hA, mlI_20 hA, mlI_21 hA, msI_0 hA, msI_3 hA, msI_12 hA, msI_13 hA, msI_14 hA, msI_16 hA, msI_17 hA, msI_18 hA, msI_19 hA, msI_20 hA, msI_21 hA, mlZ_2 hA, mlZ_7 hA, msZ_2 hA, msZ_7 hA, kI_some, kL_some, kR_some, kV_none, ne_eq, not_true_eq_false, not_false_eq_true, true_implies, false_implies, implies_true, true_and, and_true, ab_z01, or_true, true_or, reduceCtorEq, Option.some.injEq, Int.reduceEq, Int.reduceNe, Int.reduceLT, Int.reduceLE, Int.reduceNeg, Int.reduceAdd, Int.reduceSub, Int.reduceMul, Nat.reduceEqDiff, Nat.reduceAdd, Nat.reduceMul, Int.reduceToNat, ↓reduceIte, hu]
      refine ⟨fun c => absurd (by omega) c, fun _ => ?_⟩
      repeat (first | refine And.intro (by omega) ?_ | refine And.intro (i3 (by omega) (by omega)) ?_)
      have e1 : (394 + (i : Int)).toNat = 394 + i := by omega
      have e2 : (788 + (i : Int)).toNat = 394 + i + 394 := by omega
      rw [e1, e2, vu_up, if_neg (by omega)]
      have e : va_up (fun j => if 394 ≤ j ∧ j < 394 + i then ar 0 (j + 394) else ar 0 j) (394 + i) (ar 0 (394 + i + 394)) = (fun j => if 394 ≤ j ∧ j < 394 + (i + 1) then ar 0 (j + 394) else ar 0 j) := by
        funext j
        rw [vu_app]
        by_cases q : j = 394 + i
        · subst q
          rw [if_pos rfl, if_pos (by omega)]
        · rw [if_neg q]
          by_cases q2 : 394 ≤ j ∧ j < 394 + i
          · rw [if_pos q2, if_pos (by omega)]
          · rw [if_neg q2, if_neg (by omega)]
      rw [e]
      exact ih
  · have F44 : Vx (d + 2) m_X10_keepPast 0 0 44 [some (vR (some m)), some (vI 0)] [] (mH h m ad sc ar) K := by
      refine B_X10_keepPast_44 ?_
      simp only [mCV, kI_some, kL_some, kR_some, kV_none, vu_app, mgR_0, mgR_3, mgR_12, mgR_13, mgR_14, mgR_16, mgR_17, mgR_18, mgR_19, mgR_20, mgR_21, mgR_2, mgR_7, mgI_1, mgI_4, mgI_5, mgI_6, mgI_8, mgI_9, mgI_10, mgI_11, mgI_15, mgI_22, mpI_1, mpI_4, mpI_5, mpI_6, mpI_8, mpI_9, mpI_10, mpI_11, mpI_15, mpI_22, mlI_0 hA, mlI_3 hA, mlI_12 hA, mlI_13 hA, mlI_14 hA, mlI_16 hA, mlI_17 hA, mlI_18 hA, mlI_19 hA, mlI_20 hA, mlI_21 hA, msI_0 hA, msI_3 hA, msI_12 hA, msI_13 hA, msI_14 hA, msI_16 hA, msI_17 hA, msI_18 hA, msI_19 hA, msI_20 hA, msI_21 hA, mlZ_2 hA, mlZ_7 hA, msZ_2 hA, msZ_7 hA, kI_some, kL_some, kR_some, kV_none, ne_eq, not_true_eq_false, not_false_eq_true, true_implies, false_implies, implies_true, true_and, and_true, ab_z01, or_true, true_or, reduceCtorEq, Option.some.injEq, Int.reduceEq, Int.reduceNe, Int.reduceLT, Int.reduceLE, Int.reduceNeg, Int.reduceAdd, Int.reduceSub, Int.reduceMul, Nat.reduceEqDiff, Nat.reduceAdd, Nat.reduceMul, Int.reduceToNat, ↓reduceIte, hu]
      refine ⟨fun _ => ?_, fun c => absurd (by omega) c⟩
      repeat (first | refine And.intro (by omega) ?_ | refine And.intro (i3 (by omega) (by omega)) ?_)
      rw [show (394 + 394 * ((u : Int) - 0)) = ((394 + 394 * u : Nat) : Int) by omega]
      refine mc_copyRow hA (f := 0) (by decide) (by omega) (by omega) ?_
      simp only [mCV, kI_some, kL_some, kR_some, kV_none, vu_app, mgR_0, mgR_3, mgR_12, mgR_13, mgR_14, mgR_16, mgR_17, mgR_18, mgR_19, mgR_20, mgR_21, mgR_2, mgR_7, mgI_1, mgI_4, mgI_5, mgI_6, mgI_8, mgI_9, mgI_10, mgI_11, mgI_15, mgI_22, mpI_1, mpI_4, mpI_5, mpI_6, mpI_8, mpI_9, mpI_10, mpI_11, mpI_15, mpI_22, mlI_0 hA, mlI_3 hA, mlI_12 hA, mlI_13 hA, mlI_14 hA, mlI_16 hA, mlI_17 hA, mlI_18 hA, mlI_19 hA, mlI_20 hA, mlI_21 hA, msI_0 hA, msI_3 hA, msI_12 hA, msI_13 hA, msI_14 hA, msI_16 hA, msI_17 hA, msI_18 hA, msI_19 hA, msI_20 hA, msI_21 hA, mlZ_2 hA, mlZ_7 hA, msZ_2 hA, msZ_7 hA, kI_some, kL_some, kR_some, kV_none, ne_eq, not_true_eq_false, not_false_eq_true, true_implies, false_implies, implies_true, true_and, and_true, ab_z01, or_true, true_or, reduceCtorEq, Option.some.injEq, Int.reduceEq, Int.reduceNe, Int.reduceLT, Int.reduceLE, Int.reduceNeg, Int.reduceAdd, Int.reduceSub, Int.reduceMul, Nat.reduceEqDiff, Nat.reduceAdd, Nat.reduceMul, Int.reduceToNat, ↓reduceIte, vu_up]
      repeat (first | refine And.intro (by omega) ?_ | refine And.intro (i3 (by omega) (by omega)) ?_)
      rw [kpR_n h8, kpU_n h8] at kk
      rw [show (u : Int) - 0 + 1 = ((u + 1 : Nat) : Int) by omega]
      exact kk
    refine B_X10_keepPast_2 ⟨fun c => absurd c (by decide), fun _ => ?_⟩
    simp only [mCV, kI_some, kL_some, kR_some, kV_none, vu_app, mgR_0, mgR_3, mgR_12, mgR_13, mgR_14, mgR_16, mgR_17, mgR_18, mgR_19, mgR_20, mgR_21, mgR_2, mgR_7, mgI_1, mgI_4, mgI_5, mgI_6, mgI_8, mgI_9, mgI_10, mgI_11, mgI_15, mgI_22, mpI_1, mpI_4, mpI_5, mpI_6, mpI_8, mpI_9, mpI_10, mpI_11, mpI_15, mpI_22, mlI_0 hA, mlI_3 hA, mlI_12 hA, mlI_13 hA, mlI_14 hA, mlI_16 hA, mlI_17 hA, mlI_18 hA, mlI_19 hA, mlI_20 hA, mlI_21 hA, msI_0 hA, msI_3 hA, msI_12 hA, msI_13 hA, msI_14 hA, msI_16 hA, msI_17 hA, msI_18 hA, msI_19 hA, msI_20 hA, msI_21 hA, mlZ_2 hA, mlZ_7 hA, msZ_2 hA, msZ_7 hA, kI_some, kL_some, kR_some, kV_none, ne_eq, not_true_eq_false, not_false_eq_true, true_implies, false_implies, implies_true, true_and, and_true, ab_z01, or_true, true_or, reduceCtorEq, Option.some.injEq, Int.reduceEq, Int.reduceNe, Int.reduceLT, Int.reduceLE, Int.reduceNeg, Int.reduceAdd, Int.reduceSub, Int.reduceMul, Nat.reduceEqDiff, Nat.reduceAdd, Nat.reduceMul, Int.reduceToNat, ↓reduceIte, hu]
    exact ⟨fun _ => F44, fun c => absurd (by omega) c⟩
set_option maxRecDepth 100000 in
set_option maxHeartbeats 4000000 in
theorem mc_puts {d : Nat} {h : AbH} {m : Nat} {ad : Nat → Nat} {sc : Nat → Int} {ar : Nat → Nat → Int} {K : Option AbV → AbH → Prop} (hA : mA ad) {t dd x y e z : Int} (hw : wB (ar 0)) (hn : nl (ar 0) ≤ 15) (kk : K (some (vI (posL (ar 0) t dd (nl (ar 0)) : Int))) (mH h m ad sc (va_up ar 0 (insW (ar 0) (nl (ar 0)) (posL (ar 0) t dd (nl (ar 0))) (lfs t dd x y e z))))) : Vm (d + 2) m_X10_puts [vR (some m), vI t, vI dd, vI x, vI y, vI e, vI z] (mH h m ad sc ar) K := by
  obtain ⟨R, hR⟩ : ∃ R, R = ar 0 := ⟨_, rfl⟩
  rw [← hR] at hw hn kk
  have hn0 : (nl R : Int) = R 0 := by
    have := hw.1
    unfold nl
    omega
  refine Vm.intro rfl (Nat.le_of_ble_eq_true rfl) (fun _ => B_X10_puts_0 ?_)
  simp only [mCV, kI_some, kL_some, kR_some, kV_none, vu_app, mgR_0, mgR_3, mgR_12, mgR_13, mgR_14, mgR_16, mgR_17, mgR_18, mgR_19, mgR_20, mgR_21, mgR_2, mgR_7, mgI_1, mgI_4, mgI_5, mgI_6, mgI_8, mgI_9, mgI_10, mgI_11, mgI_15, mgI_22, mpI_1, mpI_4, mpI_5, mpI_6, mpI_8, mpI_9, mpI_10, mpI_11, mpI_15, mpI_22, mlI_0 hA, mlI_3 hA, mlI_12 hA, mlI_13 hA, mlI_14 hA, mlI_16 hA, mlI_17 hA, mlI_18 hA, mlI_19 hA, mlI_20 hA, mlI_21 hA, msI_0 hA, msI_3 hA, msI_12 hA, msI_13 hA, msI_14 hA, msI_16 hA, msI_17 hA, msI_18 hA, msI_19 hA, msI_20 hA, msI_21 hA, mlZ_2 hA, mlZ_7 hA, msZ_2 hA, msZ_7 hA, kI_some, kL_some, kR_some, kV_none, ne_eq, not_true_eq_false, not_false_eq_true, true_implies, false_implies, implies_true, true_and, and_true, ab_z01, or_true, true_or, reduceCtorEq, Option.some.injEq, Int.reduceEq, Int.reduceNe, Int.reduceLT, Int.reduceLE, Int.reduceNeg, Int.reduceAdd, Int.reduceSub, Int.reduceMul, Nat.reduceEqDiff, Nat.reduceAdd, Nat.reduceMul, Int.reduceToNat, ↓reduceIte, ← hR]
  rw [← hn0]
  -- its place is found
  have F99 : ∀ a, a ≤ nl R → posL R t dd (nl R) = a → Vx (d + 2) m_X10_puts 0 0 99 [some (vR (some m)), some (vI t), some (vI dd), some (vI x), some (vI y), some (vI e), some (vI z), some (vI (a : Int)), none] [] (mH h m ad sc (va_up ar 0 (shL R a (nl R)))) K := by
    intro a ha hpa
    rw [hpa] at kk
    have e0 : (2 + 6 * (a : Int)).toNat = 2 + 6 * a := by omega
    have e1 : (2 + 6 * (a : Int) + 1).toNat = 2 + 6 * a + 1 := by omega
    have e2 : (2 + 6 * (a : Int) + 2).toNat = 2 + 6 * a + 2 := by omega
    have e3 : (2 + 6 * (a : Int) + 3).toNat = 2 + 6 * a + 3 := by omega
    have e4 : (2 + 6 * (a : Int) + 4).toNat = 2 + 6 * a + 4 := by omega
    have e5 : (2 + 6 * (a : Int) + 5).toNat = 2 + 6 * a + 5 := by omega
    have q0 : shL R a (nl R) 0 = R 0 := if_neg (by omega)
    have fin : ∀ v : Int, v = (if e = 0 then -1 else z) → va_up (va_up (va_up (va_up (va_up (va_up (va_up (shL R a (nl R)) (2 + 6 * a) t) (2 + 6 * a + 1) dd) (2 + 6 * a + 2) x) (2 + 6 * a + 3) y) (2 + 6 * a + 4) e) (2 + 6 * a + 5) v) 0 (R 0 + 1) = insW R (nl R) a (lfs t dd x y e z) := by
      intro v hv
      funext j
      rw [insW_app]
      simp only [vu_app]
      by_cases j0 : j = 0
      · rw [if_pos j0, if_pos j0]
      · rw [if_neg j0, if_neg j0]
        by_cases jb : 2 + 6 * a ≤ j ∧ j < 2 + 6 * a + 6
        · rw [if_pos jb]
          rcases (show j = 2 + 6 * a ∨ j = 2 + 6 * a + 1 ∨ j = 2 + 6 * a + 2 ∨ j = 2 + 6 * a + 3 ∨ j = 2 + 6 * a + 4 ∨ j = 2 + 6 * a + 5 by omega) with q | q | q | q | q | q
          · rw [if_neg (by omega), if_neg (by omega), if_neg (by omega), if_neg (by omega), if_neg (by omega), if_pos q, show j - (2 + 6 * a) = 0 by omega]; rfl
          · rw [if_neg (by omega), if_neg (by omega), if_neg (by omega), if_neg (by omega), if_pos q, show j - (2 + 6 * a) = 1 by omega]; rfl
          · rw [if_neg (by omega), if_neg (by omega), if_neg (by omega), if_pos q, show j - (2 + 6 * a) = 2 by omega]; rfl
          · rw [if_neg (by omega), if_neg (by omega), if_pos q, show j - (2 + 6 * a) = 3 by omega]; rfl
          · rw [if_neg (by omega), if_pos q, show j - (2 + 6 * a) = 4 by omega]; rfl
          · rw [if_pos q, show j - (2 + 6 * a) = 5 by omega, hv]; rfl
        · rw [if_neg jb, if_neg (by omega), if_neg (by omega), if_neg (by omega), if_neg (by omega), if_neg (by omega), if_neg (by omega)]
    have n0 : ∀ k, (0 = 2 + 6 * a + k) = False := fun k => by simp; omega
    have n1 : (0 = 2 + 6 * a) = False := by simp; omega
    refine B_X10_puts_99 ?_
    simp only [mCV, kI_some, kL_some, kR_some, kV_none, vu_app, mgR_0, mgR_3, mgR_12, mgR_13, mgR_14, mgR_16, mgR_17, mgR_18, mgR_19, mgR_20, mgR_21, mgR_2, mgR_7, mgI_1, mgI_4, mgI_5, mgI_6, mgI_8, mgI_9, mgI_10, mgI_11, mgI_15, mgI_22, mpI_1, mpI_4, mpI_5, mpI_6, mpI_8, mpI_9, mpI_10, mpI_11, mpI_15, mpI_22, mlI_0 hA, mlI_3 hA, mlI_12 hA, mlI_13 hA, mlI_14 hA, mlI_16 hA, mlI_17 hA, mlI_18 hA, mlI_19 hA, mlI_20 hA, mlI_21 hA, msI_0 hA, msI_3 hA, msI_12 hA, msI_13 hA, msI_14 hA, msI_16 hA, msI_17 hA, msI_18 hA, msI_19 hA, msI_20 hA, msI_21 hA, mlZ_2 hA, mlZ_7 hA, msZ_2 hA, msZ_7 hA, kI_some, kL_some, kR_some, kV_none, ne_eq, not_true_eq_false, not_false_eq_true, true_implies, false_implies, implies_true, true_and, and_true, ab_z01, or_true, true_or, reduceCtorEq, Option.some.injEq, Int.reduceEq, Int.reduceNe, Int.reduceLT, Int.reduceLE, Int.reduceNeg, Int.reduceAdd, Int.reduceSub, Int.reduceMul, Nat.reduceEqDiff, Nat.reduceAdd, Nat.reduceMul, Int.reduceToNat, ↓reduceIte, e0, e1, e2, e3, e4, e5, vu_up, q0]
    repeat (first | refine And.intro (by omega) ?_ | refine And.intro (i3 (by omega) (by omega)) ?_)
    refine ⟨fun c => ?_, fun c => ?_⟩
    · repeat (first | refine And.intro (by omega) ?_ | refine And.intro (i3 (by omega) (by omega)) ?_)
      simp only [n0, n1, if_false]
      repeat (first | refine And.intro (by omega) ?_ | refine And.intro (i3 (by omega) (by omega)) ?_)
      rw [fin z (by rw [if_neg c])]
      exact kk
    · repeat (first | refine And.intro (by omega) ?_ | refine And.intro (i3 (by omega) (by omega)) ?_)
      simp only [n0, n1, if_false]
      repeat (first | refine And.intro (by omega) ?_ | refine And.intro (i3 (by omega) (by omega)) ?_)
      rw [fin (-1) (by rw [if_pos (by simpa using c)])]
      exact kk
  -- the loop: a laws are still asked
  have P : ∀ a, a ≤ nl R → posL R t dd (nl R) = posL R t dd a → Vx (d + 2) m_X10_puts 0 0 8 [some (vR (some m)), some (vI t), some (vI dd), some (vI x), some (vI y), some (vI e), some (vI z), some (vI (a : Int)), none] [] (mH h m ad sc (va_up ar 0 (shL R a (nl R)))) K := by
    intro a
    induction a with
    | zero =>
      intro ha hp
      exact B_X10_puts_8 ⟨fun _ => F99 0 ha hp, fun c => absurd (by decide) c⟩
    | succ a ih =>
      intro ha hp
      have hps : posL R t dd (a + 1) = if dd < lw R a 1 ∨ (lw R a 1 = dd ∧ t < lw R a 0) then posL R t dd a else a + 1 := rfl
      have stay : ¬ (dd < lw R a 1 ∨ (lw R a 1 = dd ∧ t < lw R a 0)) → Vx (d + 2) m_X10_puts 0 0 99 [some (vR (some m)), some (vI t), some (vI dd), some (vI x), some (vI y), some (vI e), some (vI z), some (vI ((a + 1 : Nat) : Int)), none] [] (mH h m ad sc (va_up ar 0 (shL R (a + 1) (nl R)))) K := fun q => F99 (a + 1) ha (by rw [hp, hps, if_neg q])
      have sh : ∀ j, j < 6 → shL R (a + 1) (nl R) (2 + 6 * a + j) = lw R a j := fun j hj => if_neg (by omega)
      have move : (dd < lw R a 1 ∨ (lw R a 1 = dd ∧ t < lw R a 0)) → Vx (d + 2) m_X10_puts 0 0 55 [some (vR (some m)), some (vI t), some (vI dd), some (vI x), some (vI y), some (vI e), some (vI z), some (vI ((a + 1 : Nat) : Int)), some (vI 0)] [] (mH h m ad sc (va_up ar 0 (shL R (a + 1) (nl R)))) K := by
        intro q
        have ih2 := ih (by omega) (by rw [hp, hps, if_pos q])
        have L := lp_up (P := fun i => Vx (d + 2) m_X10_puts 0 0 55 [some (vR (some m)), some (vI t), some (vI dd), some (vI x), some (vI y), some (vI e), some (vI z), some (vI ((a + 1 : Nat) : Int)), some (vI (i : Int))] [] (mH h m ad sc (va_up ar 0 (fun j => if 2 + 6 * (a + 1) ≤ j ∧ j < 2 + 6 * (a + 1) + i then R (j - 6) else shL R (a + 1) (nl R) j))) K) (n := 6) ?_ ?_ 0 (by omega)
        · have e : (fun j => if 2 + 6 * (a + 1) ≤ j ∧ j < 2 + 6 * (a + 1) + 0 then R (j - 6) else shL R (a + 1) (nl R) j) = shL R (a + 1) (nl R) := funext fun j => if_neg (by omega)
          rw [e] at L
          exact L
        · refine B_X10_puts_55 ⟨fun _ => ⟨i3 (by omega) (by omega), ?_⟩, fun c => absurd (by decide) c⟩
          have e : (fun j => if 2 + 6 * (a + 1) ≤ j ∧ j < 2 + 6 * (a + 1) + 6 then R (j - 6) else shL R (a + 1) (nl R) j) = shL R a (nl R) := by
            funext j
            rw [shL_app, shL_app]
            by_cases q1 : 2 + 6 * (a + 1) ≤ j ∧ j < 2 + 6 * (a + 1) + 6
            · rw [if_pos q1, if_pos (by omega)]
            · rw [if_neg q1]
              by_cases q2 : 2 + 6 * (a + 1 + 1) ≤ j ∧ j < 2 + 6 * (nl R + 1)
              · rw [if_pos q2, if_pos (by omega)]
              · rw [if_neg q2, if_neg (by omega)]
          rw [e, show ((a + 1 : Nat) : Int) + -1 = (a : Int) by omega]
          exact ih2
        · intro i hi ihi
          refine B_X10_puts_55 ⟨fun c => absurd c (by omega), fun _ => ?_⟩
          simp only [mCV, kI_some, kL_some, kR_some, kV_none, vu_app, mgR_0, mgR_3, mgR_12, mgR_13, mgR_14, mgR_16, mgR_17, mgR_18, mgR_19, mgR_20, mgR_21, mgR_2, mgR_7, mgI_1, mgI_4, mgI_5, mgI_6, mgI_8, mgI_9, mgI_10, mgI_11, mgI_15, mgI_22, mpI_1, mpI_4, mpI_5, mpI_6, mpI_8, mpI_9, mpI_10, mpI_11, mpI_15, mpI_22, mlI_0 hA, mlI_3 hA, mlI_12 hA, mlI_13 hA, mlI_14 hA, mlI_16 hA, mlI_17 hA, mlI_18 hA, mlI_19 hA, mlI_20 hA, mlI_21 hA, msI_0 hA, msI_3 hA, msI_12 hA, msI_13 hA, msI_14 hA, msI_16 hA, msI_17 hA, msI_18 hA, msI_19 hA, msI_20 hA, msI_21 hA, mlZ_2 hA, mlZ_7 hA, msZ_2 hA, msZ_7 hA, kI_some, kL_some, kR_some, kV_none, ne_eq, not_true_eq_false, not_false_eq_true, true_implies, false_implies, implies_true, true_and, and_true, ab_z01, or_true, true_or, reduceCtorEq, Option.some.injEq, Int.reduceEq, Int.reduceNe, Int.reduceLT, Int.reduceLE, Int.reduceNeg, Int.reduceAdd, Int.reduceSub, Int.reduceMul, Nat.reduceEqDiff, Nat.reduceAdd, Nat.reduceMul, Int.reduceToNat, ↓reduceIte]
          repeat (first | refine And.intro (by omega) ?_ | refine And.intro (i3 (by omega) (by omega)) ?_)
          rw [show ((a + 1 : Nat) : Int) - 1 = (a : Int) by omega]
          refine mc_lawOf hA (by omega) hi ?_
          simp only [mCV, kI_some, kL_some, kR_some, kV_none, vu_app, mgR_0, mgR_3, mgR_12, mgR_13, mgR_14, mgR_16, mgR_17, mgR_18, mgR_19, mgR_20, mgR_21, mgR_2, mgR_7, mgI_1, mgI_4, mgI_5, mgI_6, mgI_8, mgI_9, mgI_10, mgI_11, mgI_15, mgI_22, mpI_1, mpI_4, mpI_5, mpI_6, mpI_8, mpI_9, mpI_10, mpI_11, mpI_15, mpI_22, mlI_0 hA, mlI_3 hA, mlI_12 hA, mlI_13 hA, mlI_14 hA, mlI_16 hA, mlI_17 hA, mlI_18 hA, mlI_19 hA, mlI_20 hA, mlI_21 hA, msI_0 hA, msI_3 hA, msI_12 hA, msI_13 hA, msI_14 hA, msI_16 hA, msI_17 hA, msI_18 hA, msI_19 hA, msI_20 hA, msI_21 hA, mlZ_2 hA, mlZ_7 hA, msZ_2 hA, msZ_7 hA, kI_some, kL_some, kR_some, kV_none, ne_eq, not_true_eq_false, not_false_eq_true, true_implies, false_implies, implies_true, true_and, and_true, ab_z01, or_true, true_or, reduceCtorEq, Option.some.injEq, Int.reduceEq, Int.reduceNe, Int.reduceLT, Int.reduceLE, Int.reduceNeg, Int.reduceAdd, Int.reduceSub, Int.reduceMul, Nat.reduceEqDiff, Nat.reduceAdd, Nat.reduceMul, Int.reduceToNat, ↓reduceIte]
          repeat (first | refine And.intro (by omega) ?_ | refine And.intro (i3 (by omega) (by omega)) ?_)
          rw [show (2 + 6 * ((a + 1 : Nat) : Int) + (i : Int)).toNat = 2 + 6 * (a + 1) + i by omega, vu_up, if_neg (by omega)]
          have e : va_up (fun j => if 2 + 6 * (a + 1) ≤ j ∧ j < 2 + 6 * (a + 1) + i then R (j - 6) else shL R (a + 1) (nl R) j) (2 + 6 * (a + 1) + i) (shL R (a + 1) (nl R) (2 + 6 * a + i)) = (fun j => if 2 + 6 * (a + 1) ≤ j ∧ j < 2 + 6 * (a + 1) + (i + 1) then R (j - 6) else shL R (a + 1) (nl R) j) := by
            funext j
            rw [vu_app]
            by_cases q : j = 2 + 6 * (a + 1) + i
            · subst q
              rw [if_pos rfl, if_pos (by omega), sh i hi]
              unfold lw
              congr 1
              omega
            · rw [if_neg q]
              by_cases q2 : 2 + 6 * (a + 1) ≤ j ∧ j < 2 + 6 * (a + 1) + i
              · rw [if_pos q2, if_pos (by omega)]
              · rw [if_neg q2, if_neg (by omega)]
          rw [e]
          exact ihi
      have ea : ((a + 1 : Nat) : Int) - 1 = (a : Int) := by omega
      have L0 : ∀ {K : Option AbV → AbH → Prop}, K (some (vI (lw R a 0))) (mH h m ad sc (va_up ar 0 (shL R (a + 1) (nl R)))) → Vm (d + 1) m_X10_lawOf [vR (some m), vI (a : Int), vI 0] (mH h m ad sc (va_up ar 0 (shL R (a + 1) (nl R)))) K := fun q => mc_lawOf hA (j := 0) (by omega) (by decide) (by rw [vu_same, sh 0 (by decide)]; exact q)
      have L1 : ∀ {K : Option AbV → AbH → Prop}, K (some (vI (lw R a 1))) (mH h m ad sc (va_up ar 0 (shL R (a + 1) (nl R)))) → Vm (d + 1) m_X10_lawOf [vR (some m), vI (a : Int), vI 1] (mH h m ad sc (va_up ar 0 (shL R (a + 1) (nl R)))) K := fun q => mc_lawOf hA (j := 1) (by omega) (by decide) (by rw [vu_same, sh 1 (by decide)]; exact q)
      refine B_X10_puts_8 ⟨fun c => absurd c (by omega), fun _ => ?_⟩
      simp only [mCV, ea]
      refine ⟨i3 (by omega) (by omega), L1 ?_⟩
      simp only [kI_some, kL_some, kR_some, kV_none, ne_eq, not_true_eq_false, not_false_eq_true, true_implies, false_implies, implies_true, true_and, and_true, ab_z01, or_true, true_or, reduceCtorEq, Option.some.injEq, Int.reduceEq, Int.reduceNe, Int.reduceLT, Int.reduceLE, Int.reduceNeg, Int.reduceAdd, Int.reduceSub, Int.reduceMul, Nat.reduceEqDiff, Nat.reduceAdd, Nat.reduceMul, Int.reduceToNat, ↓reduceIte, mCV]
      refine ⟨fun c => move (Or.inl c), fun c => ⟨i3 (by omega) (by omega), L1 ?_⟩⟩
      simp only [kI_some, kL_some, kR_some, kV_none, ne_eq, not_true_eq_false, not_false_eq_true, true_implies, false_implies, implies_true, true_and, and_true, ab_z01, or_true, true_or, reduceCtorEq, Option.some.injEq, Int.reduceEq, Int.reduceNe, Int.reduceLT, Int.reduceLE, Int.reduceNeg, Int.reduceAdd, Int.reduceSub, Int.reduceMul, Nat.reduceEqDiff, Nat.reduceAdd, Nat.reduceMul, Int.reduceToNat, ↓reduceIte, mCV]
      refine ⟨fun c1 => stay (fun q => by omega), fun c1 => ⟨i3 (by omega) (by omega), L0 ?_⟩⟩
      simp only [kI_some, kL_some, kR_some, kV_none, ne_eq, not_true_eq_false, not_false_eq_true, true_implies, false_implies, implies_true, true_and, and_true, ab_z01, or_true, true_or, reduceCtorEq, Option.some.injEq, Int.reduceEq, Int.reduceNe, Int.reduceLT, Int.reduceLE, Int.reduceNeg, Int.reduceAdd, Int.reduceSub, Int.reduceMul, Nat.reduceEqDiff, Nat.reduceAdd, Nat.reduceMul, Int.reduceToNat, ↓reduceIte, mCV]
      exact ⟨fun c2 => stay (fun q => by omega), fun c2 => move (Or.inr ⟨by omega, by omega⟩)⟩
  have P0 := P (nl R) (Nat.le_refl _) rfl
  have e : shL R (nl R) (nl R) = ar 0 := by rw [← hR]; exact funext fun j => if_neg (by omega)
  rw [e, vu_self] at P0
  exact P0
set_option maxRecDepth 100000 in
set_option maxHeartbeats 4000000 in
theorem mc_hasLaw {d : Nat} {h : AbH} {m : Nat} {ad : Nat → Nat} {sc : Nat → Int} {ar : Nat → Nat → Int} {K : Option AbV → AbH → Prop} (hA : mA ad) {t dd : Int} (hw : wV (ar 0)) (kk : K (some (vI (b2i (hasL (ar 0) t dd (nl (ar 0)))))) (mH h m ad sc ar)) : Vm (d + 2) m_X10_hasLaw [vR (some m), vI t, vI dd] (mH h m ad sc ar) K := by
  obtain ⟨n1, n2⟩ := hw.nlw
  refine Vm.intro rfl (Nat.le_of_ble_eq_true rfl) (fun _ => B_X10_hasLaw_0 ?_)
  refine lp_up (P := fun i => Vx (d + 2) m_X10_hasLaw 0 0 5 [some (vR (some m)), some (vI t), some (vI dd), some (vI (b2i (hasL (ar 0) t dd i))), some (vI (i : Int))] [] (mH h m ad sc ar) K) (n := nl (ar 0)) ?_ ?_ 0 (by omega)
  · refine B_X10_hasLaw_5 ?_
    simp only [mCV, kI_some, kL_some, kR_some, kV_none, vu_app, mgR_0, mgR_3, mgR_12, mgR_13, mgR_14, mgR_16, mgR_17, mgR_18, mgR_19, mgR_20, mgR_21, mgR_2, mgR_7, mgI_1, mgI_4, mgI_5, mgI_6, mgI_8, mgI_9, mgI_10, mgI_11, mgI_15, mgI_22, mpI_1, mpI_4, mpI_5, mpI_6, mpI_8, mpI_9, mpI_10, mpI_11, mpI_15, mpI_22, mlI_0 hA, mlI_3 hA, mlI_12 hA, mlI_13 hA, mlI_14 hA, mlI_16 hA, mlI_17 hA, mlI_18 hA, mlI_19 hA, mlI_20 hA, mlI_21 hA, msI_0 hA, msI_3 hA, msI_12 hA, msI_13 hA, msI_14 hA, msI_16 hA, msI_17 hA, msI_18 hA, msI_19 hA, msI_20 hA, msI_21 hA, mlZ_2 hA, mlZ_7 hA, msZ_2 hA, msZ_7 hA, kI_some, kL_some, kR_some, kV_none, ne_eq, not_true_eq_false, not_false_eq_true, true_implies, false_implies, implies_true, true_and, and_true, ab_z01, or_true, true_or, reduceCtorEq, Option.some.injEq, Int.reduceEq, Int.reduceNe, Int.reduceLT, Int.reduceLE, Int.reduceNeg, Int.reduceAdd, Int.reduceSub, Int.reduceMul, Nat.reduceEqDiff, Nat.reduceAdd, Nat.reduceMul, Int.reduceToNat, ↓reduceIte]
    exact ⟨fun _ => ⟨b2i_01 _, kk⟩, fun c => absurd (by omega) c⟩
  · intro i hi ih
    have hs : hasL (ar 0) t dd (i + 1) = (hasL (ar 0) t dd i || decide (lw (ar 0) i 0 = t ∧ lw (ar 0) i 1 = dd)) := rfl
    rw [hs] at ih
    refine B_X10_hasLaw_5 ?_
    simp only [mCV, kI_some, kL_some, kR_some, kV_none, vu_app, mgR_0, mgR_3, mgR_12, mgR_13, mgR_14, mgR_16, mgR_17, mgR_18, mgR_19, mgR_20, mgR_21, mgR_2, mgR_7, mgI_1, mgI_4, mgI_5, mgI_6, mgI_8, mgI_9, mgI_10, mgI_11, mgI_15, mgI_22, mpI_1, mpI_4, mpI_5, mpI_6, mpI_8, mpI_9, mpI_10, mpI_11, mpI_15, mpI_22, mlI_0 hA, mlI_3 hA, mlI_12 hA, mlI_13 hA, mlI_14 hA, mlI_16 hA, mlI_17 hA, mlI_18 hA, mlI_19 hA, mlI_20 hA, mlI_21 hA, msI_0 hA, msI_3 hA, msI_12 hA, msI_13 hA, msI_14 hA, msI_16 hA, msI_17 hA, msI_18 hA, msI_19 hA, msI_20 hA, msI_21 hA, mlZ_2 hA, mlZ_7 hA, msZ_2 hA, msZ_7 hA, kI_some, kL_some, kR_some, kV_none, ne_eq, not_true_eq_false, not_false_eq_true, true_implies, false_implies, implies_true, true_and, and_true, ab_z01, or_true, true_or, reduceCtorEq, Option.some.injEq, Int.reduceEq, Int.reduceNe, Int.reduceLT, Int.reduceLE, Int.reduceNeg, Int.reduceAdd, Int.reduceSub, Int.reduceMul, Nat.reduceEqDiff, Nat.reduceAdd, Nat.reduceMul, Int.reduceToNat, ↓reduceIte]
    refine ⟨fun c => absurd c (by omega), fun _ => ?_⟩
    cases hB : hasL (ar 0) t dd i with
    | true =>
      rw [hB, Bool.true_or] at ih
      exact ⟨fun _ => ⟨i3 (by omega) (by omega), ih⟩, fun c => absurd (by decide) c⟩
    | false =>
      rw [hB, Bool.false_or] at ih
      refine ⟨fun c => absurd rfl c, fun _ => mc_lawOf hA (j := 0) (by omega) (by decide) ?_⟩
      have z0 : ar 0 (2 + 6 * i + 0) = lw (ar 0) i 0 := rfl
      have z1 : ar 0 (2 + 6 * i + 1) = lw (ar 0) i 1 := rfl
      rw [z0]
      simp only [mCV, kI_some, kL_some, kR_some, kV_none, vu_app, mgR_0, mgR_3, mgR_12, mgR_13, mgR_14, mgR_16, mgR_17, mgR_18, mgR_19, mgR_20, mgR_21, mgR_2, mgR_7, mgI_1, mgI_4, mgI_5, mgI_6, mgI_8, mgI_9, mgI_10, mgI_11, mgI_15, mgI_22, mpI_1, mpI_4, mpI_5, mpI_6, mpI_8, mpI_9, mpI_10, mpI_11, mpI_15, mpI_22, mlI_0 hA, mlI_3 hA, mlI_12 hA, mlI_13 hA, mlI_14 hA, mlI_16 hA, mlI_17 hA, mlI_18 hA, mlI_19 hA, mlI_20 hA, mlI_21 hA, msI_0 hA, msI_3 hA, msI_12 hA, msI_13 hA, msI_14 hA, msI_16 hA, msI_17 hA, msI_18 hA, msI_19 hA, msI_20 hA, msI_21 hA, mlZ_2 hA, mlZ_7 hA, msZ_2 hA, msZ_7 hA, kI_some, kL_some, kR_some, kV_none, ne_eq, not_true_eq_false, not_false_eq_true, true_implies, false_implies, implies_true, true_and, and_true, ab_z01, or_true, true_or, reduceCtorEq, Option.some.injEq, Int.reduceEq, Int.reduceNe, Int.reduceLT, Int.reduceLE, Int.reduceNeg, Int.reduceAdd, Int.reduceSub, Int.reduceMul, Nat.reduceEqDiff, Nat.reduceAdd, Nat.reduceMul, Int.reduceToNat, ↓reduceIte]
      refine ⟨fun c => ⟨i3 (by omega) (by omega), ?_⟩, fun c => mc_lawOf hA (j := 1) (by omega) (by decide) ?_⟩
      · rw [decide_eq_false (fun q => c q.1)] at ih
        exact ih
      · rw [z1]
        simp only [mCV, kI_some, kL_some, kR_some, kV_none, vu_app, mgR_0, mgR_3, mgR_12, mgR_13, mgR_14, mgR_16, mgR_17, mgR_18, mgR_19, mgR_20, mgR_21, mgR_2, mgR_7, mgI_1, mgI_4, mgI_5, mgI_6, mgI_8, mgI_9, mgI_10, mgI_11, mgI_15, mgI_22, mpI_1, mpI_4, mpI_5, mpI_6, mpI_8, mpI_9, mpI_10, mpI_11, mpI_15, mpI_22, mlI_0 hA, mlI_3 hA, mlI_12 hA, mlI_13 hA, mlI_14 hA, mlI_16 hA, mlI_17 hA, mlI_18 hA, mlI_19 hA, mlI_20 hA, mlI_21 hA, msI_0 hA, msI_3 hA, msI_12 hA, msI_13 hA, msI_14 hA, msI_16 hA, msI_17 hA, msI_18 hA, msI_19 hA, msI_20 hA, msI_21 hA, mlZ_2 hA, mlZ_7 hA, msZ_2 hA, msZ_7 hA, kI_some, kL_some, kR_some, kV_none, ne_eq, not_true_eq_false, not_false_eq_true, true_implies, false_implies, implies_true, true_and, and_true, ab_z01, or_true, true_or, reduceCtorEq, Option.some.injEq, Int.reduceEq, Int.reduceNe, Int.reduceLT, Int.reduceLE, Int.reduceNeg, Int.reduceAdd, Int.reduceSub, Int.reduceMul, Nat.reduceEqDiff, Nat.reduceAdd, Nat.reduceMul, Int.reduceToNat, ↓reduceIte]
        refine ⟨fun c1 => ⟨i3 (by omega) (by omega), ?_⟩, fun c1 => ⟨i3 (by omega) (by omega), ?_⟩⟩
        · rw [decide_eq_false (fun q => c1 q.2)] at ih
          exact ih
        · rw [decide_eq_true ⟨by simpa using c, by simpa using c1⟩] at ih
          exact ih
