/-! the words of the text, in the class -/
set_option maxRecDepth 100000 in
set_option maxHeartbeats 4000000 in
theorem cs_length {d : Nat} {h : AbH} {K : Option AbV → AbH → Prop} {a j : Nat} (hs : hpS h a j) (kk : K (some (vI ((st_len.getD j 0 : Nat) : Int))) h) (hb : ∃ b, hpB h b j) : Vm (d + 2) m_J0_length_8abf5 [vR (some a)] h K := by
  refine Vm.intro rfl (Nat.le_of_ble_eq_true rfl) (fun _ => B_J0_length_8abf5_0 ?_)
  refine ⟨a, j, rfl, hs, fun b hb => ⟨b, j, rfl, hb, a, j, rfl, hs, ?_⟩⟩
  refine Vm.intro rfl (Nat.le_of_ble_eq_true rfl) (fun _ => B_J0_coder_7d493_0 ?_)
  refine ⟨a, j, rfl, hs, rfl, ?_⟩
  simp only [kI_some, kL_some, kR_some, kV_none, ne_eq, not_true_eq_false, not_false_eq_true, true_implies, false_implies, implies_true, true_and, and_true, ab_z01, or_true, true_or, reduceCtorEq, Option.some.injEq, Int.reduceEq, Int.reduceNe, Int.reduceLT, Int.reduceLE, Int.reduceNeg, Int.reduceAdd, Int.reduceSub, Int.reduceMul, Nat.reduceEqDiff, Nat.reduceAdd, Nat.reduceMul, Int.reduceToNat, ↓reduceIte]
  exact kk
def wS (j i : Nat) : Int := match j, i with
  | 0, 0 => 108
  | 0, 1 => 97
  | 0, 2 => 119
  | 1, 0 => 109
  | 1, 1 => 101
  | 1, 2 => 101
  | 1, 3 => 116
  | 2, 0 => 108
  | 2, 1 => 111
  | 2, 2 => 97
  | 2, 3 => 110
  | 3, 0 => 97
  | 3, 1 => 108
  | 3, 2 => 108
  | _, _ => 0
def wN (j : Nat) : Nat := if j = 1 ∨ j = 2 then 4 else 3
theorem st_wS : ∀ j, j < 4 → st_len.getD j 0 = wN j ∧ ∀ i, i < wN j → st_int j i = wS j i := by
  intro j hj
  match j, hj with
  | 0, _ => exact ⟨rfl, fun i hi => match i, hi with | 0, _ => rfl | 1, _ => rfl | 2, _ => rfl⟩
  | 1, _ => exact ⟨rfl, fun i hi => match i, hi with | 0, _ => rfl | 1, _ => rfl | 2, _ => rfl | 3, _ => rfl⟩
  | 2, _ => exact ⟨rfl, fun i hi => match i, hi with | 0, _ => rfl | 1, _ => rfl | 2, _ => rfl | 3, _ => rfl⟩
  | 3, _ => exact ⟨rfl, fun i hi => match i, hi with | 0, _ => rfl | 1, _ => rfl | 2, _ => rfl⟩
theorem wS_b : ∀ j, j < 4 → ∀ i, i < wN j → 97 ≤ wS j i ∧ wS j i ≤ 122 := by
  intro j hj
  match j, hj with
  | 0, _ => exact fun i hi => match i, hi with | 0, _ => by decide | 1, _ => by decide | 2, _ => by decide
  | 1, _ => exact fun i hi => match i, hi with | 0, _ => by decide | 1, _ => by decide | 2, _ => by decide | 3, _ => by decide
  | 2, _ => exact fun i hi => match i, hi with | 0, _ => by decide | 1, _ => by decide | 2, _ => by decide | 3, _ => by decide
  | 3, _ => exact fun i hi => match i, hi with | 0, _ => by decide | 1, _ => by decide | 2, _ => by decide
set_option maxRecDepth 100000 in
set_option maxHeartbeats 4000000 in
theorem cs_charAt {d : Nat} {h : AbH} {K : Option AbV → AbH → Prop} {a j i : Nat} (hs : hpS h a j) (hj : j < 4) (hi : i < wN j) (kk : K (some (vI (wS j i))) h) : Vm (d + 4) m_J0_charAt_5068e [vR (some a), vI (i : Int)] h K := by
  obtain ⟨s1, s2⟩ := st_wS j hj
  have s2 := s2 i hi
  have hb := wS_b j hj i hi
  refine Vm.intro rfl (Nat.le_of_ble_eq_true rfl) (fun _ => B_J0_charAt_5068e_0 ?_)
  refine ⟨a, j, rfl, hs, ?_⟩
  refine Vm.intro rfl (Nat.le_of_ble_eq_true rfl) (fun _ => B_J0_isLatin1_aae02_0 ?_)
  refine ⟨a, j, rfl, hs, fun z => absurd rfl z, fun _ => ?_⟩
  simp only [kI_some, kL_some, kR_some, kV_none, ne_eq, not_true_eq_false, not_false_eq_true, true_implies, false_implies, implies_true, true_and, and_true, ab_z01, or_true, true_or, reduceCtorEq, Option.some.injEq, Int.reduceEq, Int.reduceNe, Int.reduceLT, Int.reduceLE, Int.reduceNeg, Int.reduceAdd, Int.reduceSub, Int.reduceMul, Nat.reduceEqDiff, Nat.reduceAdd, Nat.reduceMul, Int.reduceToNat, ↓reduceIte]
  refine ⟨a, j, rfl, hs, fun b hbb => ?_⟩
  refine Vm.intro rfl (Nat.le_of_ble_eq_true rfl) (fun _ => B_J1_charAt_3b067_0 ?_)
  refine ⟨b, j, rfl, hbb, ?_⟩
  rw [s1]
  refine Vm.intro rfl (Nat.le_of_ble_eq_true rfl) (fun _ => B_J0_checkIndex_df160_0 ?_)
  intro r1
  refine Vm.intro rfl (Nat.le_of_ble_eq_true rfl) (fun _ => B_J3_checkIndex_8e157_0 ?_)
  refine ⟨fun z => absurd z (by omega), fun _ => ⟨fun _ => ?_, fun z => absurd (by omega) z⟩⟩
  simp only [kI_some, kL_some, kR_some, kV_none, ne_eq, not_true_eq_false, not_false_eq_true, true_implies, false_implies, implies_true, true_and, and_true, ab_z01, or_true, true_or, reduceCtorEq, Option.some.injEq, Int.reduceEq, Int.reduceNe, Int.reduceLT, Int.reduceLE, Int.reduceNeg, Int.reduceAdd, Int.reduceSub, Int.reduceMul, Nat.reduceEqDiff, Nat.reduceAdd, Nat.reduceMul, Int.reduceToNat, ↓reduceIte]
  refine ⟨b, j, rfl, hbb, by omega, by rw [s1]; omega, ?_⟩
  rw [Int.toNat_natCast, s2]
  have e : ((wS j i).toNat &&& 255 : Nat) = (wS j i).toNat := by
    have := Nat.and_two_pow_sub_one_eq_mod (wS j i).toNat 8
    have e2 : (255 : Nat) = 2 ^ 8 - 1 := rfl
    rw [e2, this]
    omega
  refine ⟨show 0 ≤ wS j i by omega, ?_⟩
  rw [e, show ((wS j i).toNat : Int) = wS j i by omega]
  exact ⟨⟨by omega, by omega⟩, ⟨by omega, by omega⟩, ⟨by omega, by omega⟩, kk⟩
def isW (T : Nat → Int) (L s j : Nat) : Prop := tkE T L s = s + wN j ∧ ∀ i, i < wN j → T (s + i) = wS j i
set_option maxRecDepth 100000 in
set_option maxHeartbeats 4000000 in
theorem cc_isWord {d : Nat} {h : AbH} {K : Option AbV → AbH → Prop} {ax ab : Nat} {T : Nat → Int} {L c s a j : Nat} (t : TK h ax ab T L c s) (hT : txV T L) (hs : hpS h a j) (hB : ∀ j, j < 4 → ∃ b, hpB h b j) (hj : j < 4) (k1 : isW T L s j → K (some (vI 1)) h) (k0 : ¬ isW T L s j → K (some (vI 0)) h) : Vm (d + 5) m_X5_isWord [vR (some ax), vR (some a)] h K := by
  have hL := hT.1
  obtain ⟨t1, hsL⟩ := id t
  have hE := tkE_le (T := T) hsL
  have s1 := (st_wS j hj).1
  have hN : wN j ≤ 4 := by unfold wN; split <;> decide
  refine Vm.intro rfl (Nat.le_of_ble_eq_true rfl) (fun _ => B_X5_isWord_0 ?_)
  refine gI_i t1.1 rfl (gI_i t1.1 rfl ⟨i3 (by omega) (by omega), a, j, rfl, hs, cs_length hs ?_ (hB j hj)⟩)
  simp only [kI_some, kL_some, kR_some, kV_none, ne_eq, not_true_eq_false, not_false_eq_true, true_implies, false_implies, implies_true, true_and, and_true, ab_z01, or_true, true_or, reduceCtorEq, Option.some.injEq, Int.reduceEq, Int.reduceNe, Int.reduceLT, Int.reduceLE, Int.reduceNeg, Int.reduceAdd, Int.reduceSub, Int.reduceMul, Nat.reduceEqDiff, Nat.reduceAdd, Nat.reduceMul, Int.reduceToNat, ↓reduceIte]
  rw [s1]
  refine ⟨fun q => ?_, fun q => k0 (fun z => q (by have := z.1; omega))⟩
  refine lp_up (P := fun i => (∀ k, k < i → T (s + k) = wS j k) → Vx (d + 5) m_X5_isWord 0 0 20 [some (vR (some ax)), some (vR (some a)), some (vI (i : Int))] [] h K) (n := wN j) ?_ ?_ 0 (by omega) (fun k hk => absurd hk (by omega))
  · intro hk
    refine B_X5_isWord_20 ⟨a, j, rfl, hs, cs_length hs ?_ (hB j hj)⟩
    simp only [kI_some, kL_some, kR_some, kV_none, ne_eq, not_true_eq_false, not_false_eq_true, true_implies, false_implies, implies_true, true_and, and_true, ab_z01, or_true, true_or, reduceCtorEq, Option.some.injEq, Int.reduceEq, Int.reduceNe, Int.reduceLT, Int.reduceLE, Int.reduceNeg, Int.reduceAdd, Int.reduceSub, Int.reduceMul, Nat.reduceEqDiff, Nat.reduceAdd, Nat.reduceMul, Int.reduceToNat, ↓reduceIte]
    rw [s1]
    exact ⟨fun _ => k1 ⟨by omega, hk⟩, fun z => absurd (Int.le_refl _) z⟩
  · intro i hi ih hk
    refine B_X5_isWord_20 ⟨a, j, rfl, hs, cs_length hs ?_ (hB j hj)⟩
    simp only [kI_some, kL_some, kR_some, kV_none, ne_eq, not_true_eq_false, not_false_eq_true, true_implies, false_implies, implies_true, true_and, and_true, ab_z01, or_true, true_or, reduceCtorEq, Option.some.injEq, Int.reduceEq, Int.reduceNe, Int.reduceLT, Int.reduceLE, Int.reduceNeg, Int.reduceAdd, Int.reduceSub, Int.reduceMul, Nat.reduceEqDiff, Nat.reduceAdd, Nat.reduceMul, Int.reduceToNat, ↓reduceIte]
    rw [s1]
    refine ⟨fun z => absurd z (by omega), fun _ => ?_⟩
    refine gI_i t1.1 rfl ⟨i3 (by omega) (by omega), cv_i t1.1 ?_⟩
    rw [show (s : Int) + (i : Int) = ((s + i : Nat) : Int) by omega]
    refine cc_byteAt t1 hT ?_
    simp only [kI_some, kL_some, kR_some, kV_none, ne_eq, not_true_eq_false, not_false_eq_true, true_implies, false_implies, implies_true, true_and, and_true, ab_z01, or_true, true_or, reduceCtorEq, Option.some.injEq, Int.reduceEq, Int.reduceNe, Int.reduceLT, Int.reduceLE, Int.reduceNeg, Int.reduceAdd, Int.reduceSub, Int.reduceMul, Nat.reduceEqDiff, Nat.reduceAdd, Nat.reduceMul, Int.reduceToNat, ↓reduceIte]
    rw [bA_nat, if_pos (by omega)]
    refine ⟨a, j, rfl, hs, cs_charAt hs hj hi ?_⟩
    simp only [kI_some, kL_some, kR_some, kV_none, ne_eq, not_true_eq_false, not_false_eq_true, true_implies, false_implies, implies_true, true_and, and_true, ab_z01, or_true, true_or, reduceCtorEq, Option.some.injEq, Int.reduceEq, Int.reduceNe, Int.reduceLT, Int.reduceLE, Int.reduceNeg, Int.reduceAdd, Int.reduceSub, Int.reduceMul, Nat.reduceEqDiff, Nat.reduceAdd, Nat.reduceMul, Int.reduceToNat, ↓reduceIte]
    refine ⟨fun z => ⟨i3 (by omega) (by omega), ih (fun k hk2 => ?_)⟩, fun z => k0 (fun y => z (y.2 i hi))⟩
    by_cases e : k = i
    · rw [e]; exact z
    · exact hk k (by omega)
def sgW (j : Nat) : Nat := if j = 3 then 0 else j + 1
theorem wch_wS : ∀ j, j < 4 → (∀ i, i < wN j → wch (sgW j) i = wS j i) ∧ (wN j = 3 → wch (sgW j) 3 = 0) ∧ (wN j = 3 ∨ wN j = 4) := by
  intro j hj
  match j, hj with
  | 0, _ => exact ⟨fun i hi => match i, hi with | 0, _ => rfl | 1, _ => rfl | 2, _ => rfl, fun _ => rfl, Or.inl rfl⟩
  | 1, _ => exact ⟨fun i hi => match i, hi with | 0, _ => rfl | 1, _ => rfl | 2, _ => rfl | 3, _ => rfl, fun z => absurd z (by decide), Or.inr rfl⟩
  | 2, _ => exact ⟨fun i hi => match i, hi with | 0, _ => rfl | 1, _ => rfl | 2, _ => rfl | 3, _ => rfl, fun z => absurd z (by decide), Or.inr rfl⟩
  | 3, _ => exact ⟨fun i hi => match i, hi with | 0, _ => rfl | 1, _ => rfl | 2, _ => rfl, fun _ => rfl, Or.inl rfl⟩
theorem wd_isW {T : Nat → Int} {L s j : Nat} (hs : s ≤ L) (hj : j < 4) : wdX T L s (sgW j) = true ↔ isW T L s j := by
  obtain ⟨a1, a2, a3⟩ := wch_wS j hj
  have hb := wS_b j hj
  have hE := tkE_le (T := T) hs
  rw [wdX_iff]
  unfold isW
  constructor
  · rintro ⟨⟨h1, h2⟩, h3⟩
    have c : ∀ i, i < wN j → s + i < tkE T L s ∧ T (s + i) = wS j i := by
      intro i hi
      have y1 := h3 i (by omega)
      rw [a1 i hi] at y1
      have y2 := hb i hi
      unfold chA at y1
      by_cases z : s + i < tkE T L s
      · rw [if_pos z] at y1
        exact ⟨z, y1.symm⟩
      · rw [if_neg z] at y1
        omega
    refine ⟨?_, fun i hi => (c i hi).2⟩
    have c2 := (c (wN j - 1) (by omega)).1
    rcases a3 with a3 | a3
    · have y1 := h3 3 (by decide)
      rw [a2 a3] at y1
      unfold chA at y1
      by_cases z : s + 3 < tkE T L s
      · rw [if_pos z] at y1
        have k3 := tkE_in (T := T) (L := L) (s := s) (j := s + 3) (by omega) z
        have k0 := (c 0 (by omega)).2
        have b0 := hb 0 (by omega)
        have := kd_1.mpr (show 97 ≤ T s ∧ T s ≤ 122 by rw [Nat.add_zero] at k0; omega)
        rw [this] at k3
        have := kd_1.mp k3
        omega
      · omega
    · omega
  · rintro ⟨h1, h2⟩
    have hsL : s < L := by
      apply Classical.byContradiction
      intro z
      have : tkE T L s = s := by unfold tkE; rw [if_pos (by omega)]
      omega
    refine ⟨⟨hsL, by omega⟩, fun i hi => ?_⟩
    unfold chA
    by_cases z : i < wN j
    · rw [if_pos (by omega), a1 i z, h2 i z]
    · rw [if_neg (by omega), show i = 3 by omega]
      exact a2 (by omega)
theorem wd_one {T : Nat → Int} {L s : Nat} : ∀ x y, x < 4 → y < 4 → wdX T L s x = true → wdX T L s y = true → x = y := by
  intro x y hx hy h1 h2
  have e0 := (wdX_iff.mp h1).2 0 (by decide)
  have e1 := (wdX_iff.mp h1).2 1 (by decide)
  have f0 := (wdX_iff.mp h2).2 0 (by decide)
  have f1 := (wdX_iff.mp h2).2 1 (by decide)
  have g0 : wch x 0 = wch y 0 := by rw [e0, f0]
  have g1 : wch x 1 = wch y 1 := by rw [e1, f1]
  clear e0 e1 f0 f1 h1 h2
  match x, y, hx, hy with
  | 0, 0, _, _ => rfl
  | 0, 1, _, _ => exact absurd g0 (by decide)
  | 0, 2, _, _ => exact absurd g0 (by decide)
  | 0, 3, _, _ => exact absurd g0 (by decide)
  | 1, 0, _, _ => exact absurd g0 (by decide)
  | 1, 1, _, _ => rfl
  | 1, 2, _, _ => exact absurd g0 (by decide)
  | 1, 3, _, _ => exact absurd g1 (by decide)
  | 2, 0, _, _ => exact absurd g0 (by decide)
  | 2, 1, _, _ => exact absurd g0 (by decide)
  | 2, 2, _, _ => rfl
  | 2, 3, _, _ => exact absurd g0 (by decide)
  | 3, 0, _, _ => exact absurd g0 (by decide)
  | 3, 1, _, _ => exact absurd g1 (by decide)
  | 3, 2, _, _ => exact absurd g0 (by decide)
  | 3, 3, _, _ => rfl
theorem wdN_at {T : Nat → Int} {L s x : Nat} (hx : x < 4) (h : wdX T L s x = true) : wdN T L s = (x : Int) := by
  have no' : ∀ y, y < 4 → y ≠ x → ¬ wdX T L s y = true := fun y hy hne z => hne (wd_one y x hy hx z h)
  unfold wdN
  match x, hx, h, no' with
  | 0, _, h, _ => rw [if_pos h]; rfl
  | 1, _, h, no' => rw [if_neg (no' 0 (by decide) (by decide)), if_pos h]; rfl
  | 2, _, h, no' => rw [if_neg (no' 0 (by decide) (by decide)), if_neg (no' 1 (by decide) (by decide)), if_pos h]; rfl
  | 3, _, h, no' => rw [if_neg (no' 0 (by decide) (by decide)), if_neg (no' 1 (by decide) (by decide)), if_neg (no' 2 (by decide) (by decide)), if_pos h]; rfl
theorem wdN_no {T : Nat → Int} {L s : Nat} (h : ∀ y, y < 4 → ¬ wdX T L s y = true) : wdN T L s = -1 := by
  unfold wdN
  rw [if_neg (h 0 (by decide)), if_neg (h 1 (by decide)), if_neg (h 2 (by decide)), if_neg (h 3 (by decide))]
