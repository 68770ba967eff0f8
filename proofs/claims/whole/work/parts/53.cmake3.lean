set_option maxRecDepth 100000 in
set_option maxHeartbeats 4000000 in
theorem cm_addLoan {d : Nat} {h0 h : AbH} {K : Option AbV → AbH → Prop} {P : Nat → Prop} {a b : Nat} {w w' : Nat → Int} (m : MW P h0 h a w) (hn : no w ≤ 11) (hw' : wV w') (e0 : nl w' = nl w) (e1 : no w' = no w + 1) (hout : ∀ j, j < 130 → j ≠ 1 → w' j = w j) (h1 : w' 1 = w 1 + 1) (hlo : ∀ k, k < no w → loF w' k = loF w k) (hb : hpO h b = some (2, loF w' (no w))) (hbP : ¬ P b) (kk : ∀ h', MW P h0 h' a w' → Xt (ab_new h0) h h' → K none h') : Vm (d + 2) m_X8_addLoan [vR (some a), vR (some b)] h K := by
  obtain ⟨hw, al, ao, af, ae, g1, g2, ff, fl, c, ct, n⟩ := m
  obtain ⟨n1, n2⟩ := hw.now
  have al_ne := n.2.1
  refine Vm.intro rfl (Nat.le_of_ble_eq_true rfl) (fun _ => B_X8_addLoan_0 ?_)
  refine gI_i c.1 rfl (gR_i c.1 rfl (nR_i c.2.2.1 ⟨i3 (by omega) (by omega), ?_⟩))
  refine cc_within (fun _ => ?_) (fun q => absurd (by omega) q)
  simp only [kI_some, kL_some, kR_some, kV_none, ne_eq, not_true_eq_false, not_false_eq_true, true_implies, false_implies, implies_true, true_and, and_true, ab_z01, or_true, true_or, reduceCtorEq, Option.some.injEq, Int.reduceEq, Int.reduceNe, Int.reduceLT, Int.reduceLE, Int.reduceNeg, Int.reduceAdd, Int.reduceSub, Int.reduceMul, Nat.reduceEqDiff, Nat.reduceAdd, Nat.reduceMul, Int.reduceToNat, ↓reduceIte]
  refine gR_i c.1 rfl (gI_i c.1 rfl (sR_i c.2.2.1 (by omega) (by omega) (fun b' eb => ?_) ?_))
  · have eb : b = b' := by simpa using eb
    rw [← eb]
    exact ⟨_, hb⟩
  rw [show (w 1).toNat = no w from rfl]
  have c1 := c.s2 al_ne (va_up g2 (no w) (some b))
  refine gI_i c1.1 rfl ⟨i3 (by omega) (by omega), p_i c1.1 (by show 5 < 6; decide) ?_⟩
  have c3 := c1.s0 (w 0) (w 1 + 1)
  refine kk _ ⟨hw', al, ao, af, ae, g1, va_up g2 (no w) (some b), ff, fl, by rw [hout 0 (by decide) (by decide), h1]; exact c3, ?_, n⟩ ((xt_R (Or.inl n.1.2.2.1)).tr (xt_O (Or.inl n.1.1)))
  refine CT.mv (h := h) ?_ (fun b9 n9 fs h1 h2 h3 => O7 (h := hsR h ao (2, 12, va_up g2 (no w) (some b))) (fs := [vR (some al), vR (some ao), vR (some af), vR (some ae), vI (w 0), vI (w 1)]) c.1 P b9 n9 fs h1 h2 h3)
  have hnl := hw.nlw.2
  refine ⟨fun k hk => ?_, fun k hk => ?_, fun q hq => ?_⟩
  · rw [e0]
    have : lwF w' k = lwF w k := by
      unfold lwF lw
      rw [hout _ (by omega) (by omega), hout _ (by omega) (by omega), hout _ (by omega) (by omega), hout _ (by omega) (by omega), hout _ (by omega) (by omega), hout _ (by omega) (by omega)]
    rw [this]
    exact ct.1 k hk
  · rw [e1]
    by_cases ek : k = no w
    · refine ⟨fun _ => ?_, fun z => absurd (by omega) z⟩
      rw [ek, vu_same]
      exact ⟨b, rfl, hbP, hb⟩
    · rw [vu_ne ek]
      refine ⟨fun z => ?_, fun z => (ct.2.1 k hk).2 (by omega)⟩
      rw [hlo k (by omega)]
      exact (ct.2.1 k hk).1 (by omega)
  · rw [hout _ (by omega) (by omega), hout _ (by omega) (by omega)]
    exact ct.2.2 q hq
set_option maxRecDepth 100000 in
set_option maxHeartbeats 4000000 in
theorem cm_delLoan {d : Nat} {h0 h : AbH} {K : Option AbV → AbH → Prop} {P : Nat → Prop} {a k : Nat} {w : Nat → Int} (m : MW P h0 h a w) (hk : k < no w) (kk : ∀ h', MW P h0 h' a (delO w k) → Xt (ab_new h0) h h' → K none h') : Vm (d + 3) m_X8_removeLoan [vR (some a), vI (k : Int)] h K := by
  obtain ⟨hw, al, ao, af, ae, g1, g2, ff, fl, c, ct, n⟩ := m
  obtain ⟨n1, n2⟩ := hw.now
  obtain ⟨q1, q2, q3⟩ := wV_delO hw hk
  have al_ne := n.2.1
  refine Vm.intro rfl (Nat.le_of_ble_eq_true rfl) (fun _ => B_X8_removeLoan_0 ?_)
  refine cv_i c.1 (cr_loanAt c ?_)
  obtain ⟨bk, b1, b2, b3⟩ := (ct.2.1 k (by omega)).1 hk
  have er : rAt g2 12 (k : Int) = some bk := by unfold rAt; rw [if_pos (by omega), Int.toNat_natCast, b1]
  rw [er]
  simp only [kI_some, kL_some, kR_some, kV_none, ne_eq, not_true_eq_false, not_false_eq_true, true_implies, false_implies, implies_true, true_and, and_true, ab_z01, or_true, true_or, reduceCtorEq, Option.some.injEq, Int.reduceEq, Int.reduceNe, Int.reduceLT, Int.reduceLE, Int.reduceNeg, Int.reduceAdd, Int.reduceSub, Int.reduceMul, Nat.reduceEqDiff, Nat.reduceAdd, Nat.reduceMul, Int.reduceToNat, ↓reduceIte]
  have key := lp_up (P := fun i => k ≤ i → ∀ g, (∀ j, j < 12 → (j < k → g j = g2 j) ∧ (k ≤ j → j < i → g j = rAt g2 12 ((j : Int) + 1)) ∧ (i ≤ j → g j = g2 j)) → Vx (d + 3) m_X8_removeLoan 0 0 11 [some (vR (some a)), some (vI (k : Int)), some (vI (i : Int))] [] (hsR h ao (2, 12, g)) K) (n := 12) ?_ ?_ k (by omega) (Nat.le_refl _) g2 (fun j hj => ⟨fun _ => rfl, fun z1 z2 => absurd z2 (by omega), fun _ => rfl⟩)
  · rw [hsR_self c.2.2.1] at key
    exact key
  · intro _ g hg
    have c1 := c.s2 al_ne g
    refine B_X8_removeLoan_11 (gR_i c1.1 rfl (nR_i c1.2.2.1 ⟨fun _ => ?_, fun z => absurd (by decide) z⟩))
    refine gI_i c1.1 rfl ⟨i3 (by omega) (by omega), p_i c1.1 (by show 5 < 6; decide) ?_⟩
    have c3 := c1.s0 (w 0) (w 1 - 1)
    have e1 : delO w k 1 = w 1 - 1 := by rw [delO_app, if_pos rfl]
    have out : ∀ j, j ≠ 1 → j < 130 → delO w k j = w j := fun j hj hj2 => by rw [delO_app, if_neg hj, if_neg (by omega)]
    refine kk _ ⟨q1, al, ao, af, ae, g1, g, ff, fl, by rw [e1, out 0 (by decide) (by decide)]; exact c3, ?_, n⟩ ((xt_R (Or.inl n.1.2.2.1)).tr (xt_O (Or.inl n.1.1)))
    refine CT.mv (h := h) ?_ (fun b n fs h1 h2 h3 => O7 (h := hsR h ao (2, 12, g)) (fs := [vR (some al), vR (some ao), vR (some af), vR (some ae), vI (w 0), vI (w 1)]) c.1 P b n fs h1 h2 h3)
    refine ⟨fun j hj => ?_, fun j hj => ?_, fun q hq => ?_⟩
    · rw [q2]
      have : lwF (delO w k) j = lwF w j := by
        unfold lwF lw
        rw [out _ (by omega) (by omega), out _ (by omega) (by omega), out _ (by omega) (by omega), out _ (by omega) (by omega), out _ (by omega) (by omega), out _ (by omega) (by omega)]
      rw [this]
      exact ct.1 j hj
    · rw [q3]
      obtain ⟨a1, a2, a3⟩ := hg j hj
      by_cases cj : j < k
      · rw [a1 cj]
        refine ⟨fun zz => ?_, fun zz => absurd (by omega) zz⟩
        rw [loF_eq (hw.2.2.2.2 j (by omega)) (fun i hi => by rw [lo_delO n1.symm hk (by omega) hi, if_pos cj])]
        exact (ct.2.1 j hj).1 (by omega)
      · rw [a2 (by omega) hj]
        unfold rAt
        refine ⟨fun zz => ?_, fun zz => ?_⟩
        · rw [if_pos (by omega), show ((j : Int) + 1).toNat = j + 1 by omega]
          rw [loF_eq (k := j + 1) (hw.2.2.2.2 (j + 1) (by omega)) (fun i hi => by rw [lo_delO n1.symm hk (by omega) hi, if_neg cj])]
          exact (ct.2.1 (j + 1) (by omega)).1 (by omega)
        · by_cases c5 : j + 1 < 12
          · rw [if_pos (by omega), show ((j : Int) + 1).toNat = j + 1 by omega]
            exact (ct.2.1 (j + 1) c5).2 (by omega)
          · rw [if_neg (by omega)]
    · rw [out _ (by omega) (by omega), out _ (by omega) (by omega)]
      exact ct.2.2 q hq
  · intro i hi ih hki g hg
    have c1 := c.s2 al_ne g
    refine B_X8_removeLoan_11 (gR_i c1.1 rfl (nR_i c1.2.2.1 ⟨fun z => absurd z (by omega), fun _ => ?_⟩))
    refine gR_i c1.1 rfl ⟨i3 (by omega) (by omega), cv_i c1.1 (cr_loanAt c1 ?_)⟩
    simp only [kI_some, kL_some, kR_some, kV_none, ne_eq, not_true_eq_false, not_false_eq_true, true_implies, false_implies, implies_true, true_and, and_true, ab_z01, or_true, true_or, reduceCtorEq, Option.some.injEq, Int.reduceEq, Int.reduceNe, Int.reduceLT, Int.reduceLE, Int.reduceNeg, Int.reduceAdd, Int.reduceSub, Int.reduceMul, Nat.reduceEqDiff, Nat.reduceAdd, Nat.reduceMul, Int.reduceToNat, ↓reduceIte]
    have eg : rAt g 12 ((i : Int) + 1) = rAt g2 12 ((i : Int) + 1) := by
      unfold rAt
      by_cases c5 : i + 1 < 12
      · rw [if_pos (by omega), if_pos (by omega), show ((i : Int) + 1).toNat = i + 1 by omega]
        exact (hg (i + 1) c5).2.2 (by omega)
      · rw [if_neg (by omega), if_neg (by omega)]
    refine sR_i c1.2.2.1 (by omega) (by omega) (fun b eb => ?_) ?_
    · rw [eg] at eb
      unfold rAt at eb
      by_cases c5 : i + 1 < 12
      · rw [if_pos (by omega), show ((i : Int) + 1).toNat = i + 1 by omega] at eb
        by_cases c6 : i + 1 < no w
        · obtain ⟨b', y1, y2, y3⟩ := (ct.2.1 (i + 1) c5).1 c6
          rw [y1] at eb
          have eb : b' = b := by simpa using eb
          rw [← eb]
          exact ⟨_, y3⟩
        · rw [(ct.2.1 (i + 1) c5).2 c6] at eb
          cases eb
      · rw [if_neg (by omega)] at eb
        cases eb
    · rw [hsR_up, Int.toNat_natCast]
      refine ⟨i3 (by omega) (by omega), ih (by omega) _ (fun j hj => ?_)⟩
      obtain ⟨a1, a2, a3⟩ := hg j hj
      by_cases ej : j = i
      · rw [ej, vu_same]
        exact ⟨fun z => absurd z (by omega), fun _ _ => eg, fun z => absurd z (by omega)⟩
      · rw [vu_ne ej]
        exact ⟨a1, fun z1 z2 => a2 z1 (by omega), fun z => a3 (by omega)⟩
set_option maxRecDepth 100000 in
set_option maxHeartbeats 4000000 in
theorem cm_clear {d : Nat} {h0 h : AbH} {K : Option AbV → AbH → Prop} {P : Nat → Prop} {a : Nat} {w : Nat → Int} (m : MW P h0 h a w) (kk : ∀ h', MW P h0 h' a (allW w) → Xt (ab_new h0) h h' → K none h') : Vm (d + 3) m_X8_clear [vR (some a)] h K := by
  obtain ⟨hw, al, ao, af, ae, g1, g2, ff, fl, c, ct, n⟩ := m
  have al_ne := n.2.1
  obtain ⟨q1, q2, q3⟩ := wV_all (W := w)
  have z0 : ∀ j, (j = 0 ∨ j = 1 ∨ (98 ≤ j ∧ j < 130)) → allW w j = 0 := fun j h => if_pos h
  -- the meetings
  have F50 : ∀ h1 g1 g2 ff fl, C5 h1 a al ao af ae g1 g2 ff fl (w 0) (w 1) → Xt (ab_new h0) h h1 → (∀ j, j < 16 → g1 j = none) → (∀ j, j < 12 → g2 j = none) → Vx (d + 3) m_X8_clear 0 0 50 [some (vR (some a)), some (vI 0)] [] h1 K := by
    intro h1 g1 g2 ff fl c X hg1 hg2
    refine lp_up (P := fun i => ∀ h1 ff fl, C5 h1 a al ao af ae g1 g2 ff fl (w 0) (w 1) → Xt (ab_new h0) h h1 → (∀ j, j < i → ff j = -1 ∧ fl j = -1) → Vx (d + 3) m_X8_clear 0 0 50 [some (vR (some a)), some (vI (i : Int))] [] h1 K) (n := 16) ?_ ?_ 0 (by omega) h1 ff fl c X (fun j hj => absurd hj (by omega))
    · intro h1 ff fl c X hf
      refine B_X8_clear_50 ⟨fun _ => ?_, fun z => absurd (by decide) z⟩
      refine p_i c.1 (by show 4 < 6; decide) ?_
      have c1 := c.s0 0 (w 1)
      refine p_i c1.1 (by show 5 < 6; decide) ?_
      have c2 := c1.s0 0 0
      refine kk _ ⟨q1, al, ao, af, ae, g1, g2, ff, fl, by rw [z0 0 (Or.inl rfl), z0 1 (Or.inr (Or.inl rfl))]; exact c2, ⟨fun k hk => ?_, fun k hk => ?_, fun q hq => ?_⟩, n⟩ ((X.tr (xt_O (Or.inl n.1.1))).tr (xt_O (Or.inl n.1.1)))
      · rw [q2]
        exact ⟨fun z => absurd z (by omega), fun _ => hg1 k hk⟩
      · rw [q3]
        exact ⟨fun z => absurd z (by omega), fun _ => hg2 k hk⟩
      · rw [z0 _ (Or.inr (Or.inr (by omega))), if_pos rfl]
        exact hf q hq
    · intro i hi ih h1 ff fl c X hf
      refine B_X8_clear_50 ⟨fun z => absurd z (by omega), fun _ => ?_⟩
      refine cv_i c.1 (cr_setMeeting c n.2.2 hi (fun c' => ?_))
      simp only [kI_some, kL_some, kR_some, kV_none, ne_eq, not_true_eq_false, not_false_eq_true, true_implies, false_implies, implies_true, true_and, and_true, ab_z01, or_true, true_or, reduceCtorEq, Option.some.injEq, Int.reduceEq, Int.reduceNe, Int.reduceLT, Int.reduceLE, Int.reduceNeg, Int.reduceAdd, Int.reduceSub, Int.reduceMul, Nat.reduceEqDiff, Nat.reduceAdd, Nat.reduceMul, Int.reduceToNat, ↓reduceIte]
      refine ⟨i3 (by omega) (by omega), ih _ _ _ c' ((X.tr (xt_I (Or.inl n.1.2.2.2.1))).tr (xt_I (Or.inl n.1.2.2.2.2))) (fun j hj => ?_)⟩
      by_cases e : j = i
      · rw [e, vu_same, vu_same]
        exact ⟨rfl, rfl⟩
      · rw [vu_ne e, vu_ne e]
        exact hf j (by omega)
  have F26 : ∀ h1 g1 g2, C5 h1 a al ao af ae g1 g2 ff fl (w 0) (w 1) → Xt (ab_new h0) h h1 → (∀ j, j < 16 → g1 j = none) → Vx (d + 3) m_X8_clear 0 0 26 [some (vR (some a)), some (vI 0)] [] h1 K := by
    intro h1 g1 g2 c X hg1
    refine lp_up (P := fun i => ∀ h1 g2, C5 h1 a al ao af ae g1 g2 ff fl (w 0) (w 1) → Xt (ab_new h0) h h1 → (∀ j, j < i → g2 j = none) → Vx (d + 3) m_X8_clear 0 0 26 [some (vR (some a)), some (vI (i : Int))] [] h1 K) (n := 12) ?_ ?_ 0 (by omega) h1 g2 c X (fun j hj => absurd hj (by omega))
    · intro h1 g2 c X hg2
      exact B_X8_clear_26 (gR_i c.1 rfl (nR_i c.2.2.1 ⟨fun _ => F50 h1 g1 g2 ff fl c X hg1 hg2, fun z => absurd (by decide) z⟩))
    · intro i hi ih h1 g2 c X hg2
      refine B_X8_clear_26 (gR_i c.1 rfl (nR_i c.2.2.1 ⟨fun z => absurd z (by omega), fun _ => ?_⟩))
      refine gR_i c.1 rfl (sR_i c.2.2.1 (by omega) (by omega) (fun b e => absurd e (by simp)) ?_)
      rw [Int.toNat_natCast]
      refine ⟨i3 (by omega) (by omega), ih _ _ (c.s2 al_ne _) (X.tr (xt_R (Or.inl n.1.2.2.1))) (fun j hj => ?_)⟩
      by_cases e : j = i
      · rw [e, vu_same]
      · rw [vu_ne e]
        exact hg2 j (by omega)
  refine Vm.intro rfl (Nat.le_of_ble_eq_true rfl) (fun _ => B_X8_clear_0 ?_)
  refine lp_up (P := fun i => ∀ h1 g1, C5 h1 a al ao af ae g1 g2 ff fl (w 0) (w 1) → Xt (ab_new h0) h h1 → (∀ j, j < i → g1 j = none) → Vx (d + 3) m_X8_clear 0 0 2 [some (vR (some a)), some (vI (i : Int))] [] h1 K) (n := 16) ?_ ?_ 0 (by omega) h g1 c Xt.rf (fun j hj => absurd hj (by omega))
  · intro h1 g1 c X hg1
    exact B_X8_clear_2 (gR_i c.1 rfl (nR_i c.2.1 ⟨fun _ => F26 h1 g1 g2 c X hg1, fun z => absurd (by decide) z⟩))
  · intro i hi ih h1 g1 c X hg1
    refine B_X8_clear_2 (gR_i c.1 rfl (nR_i c.2.1 ⟨fun z => absurd z (by omega), fun _ => ?_⟩))
    refine gR_i c.1 rfl (sR_i c.2.1 (by omega) (by omega) (fun b e => absurd e (by simp)) ?_)
    rw [Int.toNat_natCast]
    refine ⟨i3 (by omega) (by omega), ih _ _ (c.s1 al_ne _) (X.tr (xt_R (Or.inl n.1.2.1))) (fun j hj => ?_)⟩
    by_cases e : j = i
    · rw [e, vu_same]
    · rw [vu_ne e]
      exact hg1 j (by omega)
/-! a new world, and a copy -/
set_option maxRecDepth 100000 in
set_option maxHeartbeats 4000000 in
theorem cm_init {d : Nat} {h0 h : AbH} {K : Option AbV → AbH → Prop} {P : Nat → Prop} {a : Nat} (ha : hpO h a = some (7, [vR none, vR none, vR none, vR none, vI 0, vI 0])) (na : ab_new h0 a) (X : Xt P h0 h) (kk : ∀ h' al ao af ae ff fl, C5 h' a al ao af ae (fun _ => none) (fun _ => none) ff fl 0 0 → N5 h0 a al ao af ae → Xt P h0 h' → (∀ p, p < 16 → ff p = -1 ∧ fl p = -1) → K none h') : Vm (d + 1) m_X8_init [vR (some a)] h K := by
  refine Vm.intro rfl (Nat.le_of_ble_eq_true rfl) (fun _ => B_X8_init_0 ?_)
  intro al nal h1 e1
  subst e1
  refine p_i (show hpO (hsR h al (0, 16, fun _ => none)) a = _ from ha) (by show 0 < 6; decide) ?_
  intro ao nao h2 e2
  subst e2
  refine p_i (show hpO (hsR (hsO (hsR h al (0, 16, fun _ => none)) a _) ao (2, 12, fun _ => none)) a = _ by show hpO (hsO _ a _) a = _; rw [hO_O, if_pos rfl]) (by show 1 < 6; decide) ?_
  intro af naf h3 e3
  subst e3
  refine p_i (show hpO (hsI (hsO _ a _) af (16, fun _ => 0)) a = _ by show hpO (hsO _ a _) a = _; rw [hO_O, if_pos rfl]) (by show 2 < 6; decide) ?_
  intro ae nae h4 e4
  subst e4
  refine p_i (show hpO (hsI (hsO _ a _) ae (16, fun _ => 0)) a = _ by show hpO (hsO _ a _) a = _; rw [hO_O, if_pos rfl]) (by show 3 < 6; decide) ?_
  refine p_i (show hpO (hsO _ a _) a = _ by rw [hO_O, if_pos rfl]) (by show 4 < 6; decide) ?_
  refine p_i (show hpO (hsO _ a _) a = _ by rw [hO_O, if_pos rfl]) (by show 5 < 6; decide) ?_
  have X1 := X.nR (c := (0, 16, fun _ => none)) (X.new nal)
  have X1' := X1.nO (c := (7, [vR (some al), vR none, vR none, vR none, vI 0, vI 0])) na
  have nao0 := X1'.new nao
  have X2 := X1'.nR (c := (2, 12, fun _ => none)) nao0
  have X2' := X2.nO (c := (7, [vR (some al), vR (some ao), vR none, vR none, vI 0, vI 0])) na
  have naf0 := X2'.new naf
  have X3 := X2'.nI (c := (16, fun _ => 0)) naf0
  have X3' := X3.nO (c := (7, [vR (some al), vR (some ao), vR (some af), vR none, vI 0, vI 0])) na
  have nae0 := X3'.new nae
  have X4 := X3'.nI (c := (16, fun _ => 0)) nae0
  have X5 := ((X4.nO (c := (7, [vR (some al), vR (some ao), vR (some af), vR (some ae), vI 0, vI 0])) na).nO (c := (7, [vR (some al), vR (some ao), vR (some af), vR (some ae), vI 0, vI 0])) na).nO (c := (7, [vR (some al), vR (some ao), vR (some af), vR (some ae), vI 0, vI 0])) na
  have d1 : al ≠ ao := fun e => by
    have := nao.2.2.2.2
    rw [← e] at this
    have z : hpR (hsR h al (0, 16, fun _ => none)) al = none := this
    rw [hR_R, if_pos rfl] at z
    cases z
  have d2 : af ≠ ae := fun e => by
    have := nae.2.1
    rw [← e] at this
    have z : hpI (hsI (hsO (hsR (hsO (hsR h al (0, 16, fun _ => none)) a (7, [vR (some al), vR none, vR none, vR none, vI 0, vI 0])) ao (2, 12, fun _ => none)) a (7, [vR (some al), vR (some ao), vR none, vR none, vI 0, vI 0])) af (16, fun _ => 0)) af = none := this
    rw [hI_I, if_pos rfl] at z
    cases z
  have N : N5 h0 a al ao af ae := ⟨⟨na, X.new nal, nao0, naf0, nae0⟩, d1, d2⟩
  refine lp_up (P := fun i => ∀ h1 ff fl, C5 h1 a al ao af ae (fun _ => none) (fun _ => none) ff fl 0 0 → Xt P h0 h1 → (∀ p, p < i → ff p = -1 ∧ fl p = -1) → Vx (d + 1) m_X8_init 0 0 50 [some (vR (some a)), some (vI (i : Int))] [] h1 K) (n := 16) ?_ ?_ 0 (by omega) _ (fun _ => 0) (fun _ => 0) ?_ X5 (fun p hp => absurd hp (by omega))
  · intro h1 ff fl c X hf
    exact B_X8_init_50 ⟨fun _ => kk h1 al ao af ae ff fl c N X hf, fun z => absurd (by decide) z⟩
  · intro i hi ih h1 ff fl c X hf
    refine B_X8_init_50 ⟨fun z => absurd z (by omega), fun _ => ?_⟩
    refine gR_i c.1 rfl (sI_i c.2.2.2.1 (by omega) (by omega) ?_)
    rw [Int.toNat_natCast]
    have c' := c.s3 d2 (va_up ff i (-1))
    refine gR_i c'.1 rfl (sI_i c'.2.2.2.2 (by omega) (by omega) ?_)
    rw [Int.toNat_natCast]
    refine ⟨i3 (by omega) (by omega), ih _ _ _ (c'.s4 d2 _) ((X.nI naf0).nI nae0) (fun p hp => ?_)⟩
    by_cases e : p = i
    · rw [e, vu_same, vu_same]
      exact ⟨rfl, rfl⟩
    · rw [vu_ne e, vu_ne e]
      exact hf p (by omega)
  · refine ⟨?_, ?_, ?_, ?_, ?_⟩
    · rw [hO_O, if_pos rfl]
      rfl
    · show hpR (hsR (hsR h al (0, 16, fun _ => none)) ao (2, 12, fun _ => none)) al = _
      rw [hR_R, if_neg d1, hR_R, if_pos rfl]
    · show hpR (hsR (hsR h al (0, 16, fun _ => none)) ao (2, 12, fun _ => none)) ao = _
      rw [hR_R, if_pos rfl]
    · show hpI (hsI (hsI h af (16, fun _ => 0)) ae (16, fun _ => 0)) af = _
      rw [hI_I, if_neg d2, hI_I, if_pos rfl]
    · show hpI (hsI (hsI h af (16, fun _ => 0)) ae (16, fun _ => 0)) ae = _
      rw [hI_I, if_pos rfl]
