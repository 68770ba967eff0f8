def l6 (t dd x y e z : Int) : List AbV := [vI t, vI dd, vI x, vI y, vI e, vI z]
theorem lwF_ins {R : Nat → Int} {n p k : Nat} {f : Nat → Int} (hp : p ≤ n) (hk : k ≤ n) : lwF (insW R n p f) k = if k < p then lwF R k else if k = p then l6 (f 0) (f 1) (f 2) (f 3) (f 4) (f 5) else lwF R (k - 1) := by
  unfold lwF
  rw [lw_ins hp hk (by decide), lw_ins hp hk (by decide), lw_ins hp hk (by decide), lw_ins hp hk (by decide), lw_ins hp hk (by decide), lw_ins hp hk (by decide)]
  by_cases c : k < p
  · simp only [if_pos c]
  · simp only [if_neg c]
    by_cases c2 : k = p
    · simp only [if_pos c2]; rfl
    · simp only [if_neg c2]
theorem loF_eq {w w' : Nat → Int} {k k' : Nat} (hv : loanV w k) (h : ∀ j, j < 22 → lo w' k' j = lo w k j) : loF w' k' = loF w k := by
  obtain ⟨g1, g2, g3, g4, g5, g6, g7⟩ := hv
  have e1 : word w' k' = word w k := by
    unfold word
    rw [h 2 (by decide)]
    refine List.map_congr_left (fun i hi => ?_)
    have := List.mem_range.mp hi
    exact h _ (by omega)
  have e2 : wend w' k' = wend w k := by
    unfold wend
    rw [h 3 (by decide)]
    refine List.map_congr_left (fun i hi => ?_)
    have := List.mem_range.mp hi
    exact h _ (by omega)
  unfold loF
  rw [e1, e2, h 0 (by decide), h 1 (by decide)]
theorem hsR_up {h : AbH} {q : Nat} {c c' : Nat × Nat × (Nat → Option Nat)} : hsR (hsR h q c) q c' = hsR h q c' := by
  unfold hsR
  rw [vu_up]
set_option maxRecDepth 100000 in
set_option maxHeartbeats 4000000 in
theorem cr_isBefore {d : Nat} {h : AbH} {K : Option AbV → AbH → Prop} {b b' k : Nat} {t dd x y e z : Int} {w : Nat → Int} (hb : hpO h b = some (0, l6 t dd x y e z)) (hb' : hpO h b' = some (0, lwF w k)) (k1 : (dd < lw w k 1 ∨ (lw w k 1 = dd ∧ t < lw w k 0)) → K (some (vI 1)) h) (k0 : ¬ (dd < lw w k 1 ∨ (lw w k 1 = dd ∧ t < lw w k 0)) → K (some (vI 0)) h) : Vm (d + 1) m_X1_isBefore [vR (some b), vR (some b')] h K := by
  refine Vm.intro rfl (Nat.le_of_ble_eq_true rfl) (fun _ => B_X1_isBefore_0 ?_)
  refine ⟨fun q => absurd q (by simp), fun _ => ?_⟩
  refine gI_i hb rfl (gI_i hb' rfl ⟨fun q => k1 (Or.inl q), fun q => ?_⟩)
  refine gI_i hb rfl (gI_i hb' rfl ⟨fun q2 => k0 (by omega), fun q2 => ?_⟩)
  have q2 := Classical.byContradiction q2
  exact gI_i hb rfl (gI_i hb' rfl ⟨fun q3 => k0 (by omega), fun q3 => k1 (Or.inr ⟨q2.symm, by omega⟩)⟩)
set_option maxRecDepth 100000 in
set_option maxHeartbeats 4000000 in
theorem cm_addLaw {d : Nat} {h0 h : AbH} {K : Option AbV → AbH → Prop} {P : Nat → Prop} {a b : Nat} {w : Nat → Int} {t dd x y e z : Int} (m : MW P h0 h a w) (hn : nl w ≤ 15) (hl : lawV t dd x y e (if e = 0 then -1 else z)) (hh : ¬ hasL w t dd (nl w) = true) (hb : hpO h b = some (0, l6 t dd x y e (if e = 0 then -1 else z))) (hbP : ¬ P b) (kk : ∀ h', MW P h0 h' a (insW w (nl w) (posL w t dd (nl w)) (lfs t dd x y e z)) → Xt (ab_new h0) h h' → K (some (vI (posL w t dd (nl w) : Int))) h') : Vm (d + 2) m_X8_addLaw [vR (some a), vR (some b)] h K := by
  obtain ⟨hw, al, ao, af, ae, g1, g2, ff, fl, c, ct, n⟩ := m
  obtain ⟨n1, n2⟩ := hw.nlw
  obtain ⟨q1, q2, q3⟩ := wV_ins (z := z) hw hn hl hh
  obtain ⟨N, hN⟩ : ∃ N, N = nl w := ⟨_, rfl⟩
  obtain ⟨pp, hpp⟩ : ∃ pp, pp = posL w t dd (nl w) := ⟨_, rfl⟩
  have hple : pp ≤ N := by rw [hpp, hN]; exact posL_le _ _ _ _
  rw [← hpp, ← hN] at kk q1 q2 q3
  rw [← hN] at n1 n2 hn
  have al_ne := n.2.1
  -- put at p
  have put : ∀ g, (∀ j, j < 16 → (j < pp → g j = g1 j) ∧ (pp < j → j ≤ N → g j = g1 (j - 1)) ∧ (N < j → g j = none)) → wpGR (hsR h al (0, 16, g)) (some a) 7 0 (fun r1 => wpSR (hsR h al (0, 16, g)) r1 (pp : Int) (some b) (fun h2 => wpGI h2 (some a) 7 4 (fun n3 => in32 (n3 + 1) ∧ wpP h2 (some a) 7 4 (vI (n3 + 1)) (fun h5 => K (some (vI (pp : Int))) h5)))) := by
    intro g hg
    have c1 := c.s1 al_ne g
    refine gR_i c1.1 rfl (sR_i c1.2.1 (by omega) (by omega) (fun b' eb => ?_) ?_)
    · have eb : b = b' := by simpa using eb
      rw [← eb]
      exact ⟨_, hb⟩
    rw [hsR_up, Int.toNat_natCast]
    have c2 := c.s1 al_ne (va_up g pp (some b))
    refine gI_i c2.1 rfl ⟨i3 (by omega) (by omega), p_i c2.1 (by show 4 < 6; decide) ?_⟩
    have c3 := c2.s0 (w 0 + 1) (w 1)
    have e0 : insW w N pp (lfs t dd x y e z) 0 = w 0 + 1 := ins_0
    have e1 : insW w N pp (lfs t dd x y e z) 1 = w 1 := ins_out hple hn (Or.inl rfl)
    refine kk _ ⟨q1, al, ao, af, ae, va_up g pp (some b), g2, ff, fl, by rw [e0, e1]; exact c3, ?_, n⟩ ((xt_R (Or.inl n.1.2.1)).tr (xt_O (Or.inl n.1.1)))
    refine CT.mv (h := h) ?_ (fun b9 n9 fs h1 h2 h3 => O7 (h := hsR h al (0, 16, va_up g pp (some b))) (fs := [vR (some al), vR (some ao), vR (some af), vR (some ae), vI (w 0), vI (w 1)]) c.1 P b9 n9 fs h1 h2 h3)
    refine ⟨fun k hk => ?_, fun k hk => ?_, fun q hq => ?_⟩
    · rw [q2]
      by_cases ck : k ≤ N
      · refine ⟨fun _ => ?_, fun zz => absurd (by omega) zz⟩
        rw [lwF_ins hple ck]
        by_cases c3 : k < pp
        · rw [if_pos c3, vu_ne (by omega), (hg k hk).1 (by omega)]
          exact (ct.1 k hk).1 (by omega)
        · rw [if_neg c3]
          by_cases c4 : k = pp
          · rw [if_pos c4, c4, vu_same]
            exact ⟨b, rfl, hbP, hb⟩
          · rw [if_neg c4, vu_ne c4, (hg k hk).2.1 (by omega) ck]
            exact (ct.1 (k - 1) (by omega)).1 (by omega)
      · refine ⟨fun zz => absurd zz (by omega), fun _ => ?_⟩
        rw [vu_ne (by omega)]
        exact (hg k hk).2.2 (by omega)
    · rw [q3]
      have := ct.2.1 k hk
      refine ⟨fun zz => ?_, this.2⟩
      rw [loF_eq (hw.2.2.2.2 k zz) (fun j hj => lo_out (fun j hj => ins_out hple hn (Or.inr hj)))]
      exact this.1 zz
    · rw [ins_out hple hn (Or.inr (by omega)), ins_out hple hn (Or.inr (by omega))]
      exact ct.2.2 q hq
  have loop : ∀ p, p ≤ N → ∀ g, posL w t dd N = posL w t dd p → (∀ j, j < 16 → (j < p → g j = g1 j) ∧ (p < j → j ≤ N → g j = g1 (j - 1)) ∧ (N < j → g j = none)) → Vx (d + 2) m_X8_addLaw 0 0 25 [some (vR (some a)), some (vR (some b)), some (vI (p : Int))] [] (hsR h al (0, 16, g)) K := by
    intro p
    induction p with
    | zero =>
      intro _ g hp hg
      have ez : pp = 0 := by rw [hpp, ← hN, hp]; rfl
      have put := put g (by rw [ez]; exact hg)
      rw [ez] at put
      exact B_X8_addLaw_25 ⟨fun _ => put, fun zz => absurd (by decide) zz⟩
    | succ p ih =>
      intro hpN g hp hg
      refine B_X8_addLaw_25 ⟨fun zz => absurd zz (by omega), fun _ => ?_⟩
      have c1 := c.s1 al_ne g
      refine gR_i c1.1 rfl ⟨i3 (by omega) (by omega), lR_i c1.2.1 (by omega) (by omega) ?_⟩
      have ep : (((p + 1 : Nat) : Int) - 1).toNat = p := by omega
      obtain ⟨b', b1, b2, b3⟩ := (ct.1 p (by omega)).1 (by omega)
      rw [ep, (hg p (by omega)).1 (by omega), b1]
      refine cv_i (show hpO (hsR h al (0, 16, g)) b = _ from hb) ?_
      refine cr_isBefore (w := w) (k := p) (show hpO (hsR h al (0, 16, g)) b = _ from hb) (show hpO (hsR h al (0, 16, g)) b' = _ from b3) (fun q => ?_) (fun q => ?_) <;> simp only [kI_some, kL_some, kR_some, kV_none, ne_eq, not_true_eq_false, not_false_eq_true, true_implies, false_implies, implies_true, true_and, and_true, ab_z01, or_true, true_or, reduceCtorEq, Option.some.injEq, Int.reduceEq, Int.reduceNe, Int.reduceLT, Int.reduceLE, Int.reduceNeg, Int.reduceAdd, Int.reduceSub, Int.reduceMul, Nat.reduceEqDiff, Nat.reduceAdd, Nat.reduceMul, Int.reduceToNat, ↓reduceIte]
      · refine gR_i c1.1 rfl (gR_i c1.1 rfl ⟨i3 (by omega) (by omega), lR_i c1.2.1 (by omega) (by omega) ?_⟩)
        rw [ep, (hg p (by omega)).1 (by omega), b1]
        refine sR_i c1.2.1 (by omega) (by omega) (fun b'' eb => ?_) ?_
        · have eb : b' = b'' := by simpa using eb
          rw [← eb]
          exact ⟨_, b3⟩
        rw [hsR_up, Int.toNat_natCast]
        refine ⟨i3 (by omega) (by omega), ?_⟩
        rw [show ((p + 1 : Nat) : Int) + -1 = (p : Int) by omega]
        refine ih (by omega) _ ?_ (fun j hj => ?_)
        · rw [hp]
          show (if dd < lw w p 1 ∨ (lw w p 1 = dd ∧ t < lw w p 0) then posL w t dd p else p + 1) = _
          rw [if_pos q]
        · refine ⟨fun zz => ?_, fun zz1 zz2 => ?_, fun zz => ?_⟩
          · rw [vu_ne (by omega)]
            exact (hg j hj).1 (by omega)
          · by_cases ej : j = p + 1
            · rw [ej, vu_same, show p + 1 - 1 = p by omega, b1]
            · rw [vu_ne ej]
              exact (hg j hj).2.1 (by omega) zz2
          · rw [vu_ne (by omega)]
            exact (hg j hj).2.2 zz
      · have ez : pp = p + 1 := by
          rw [hpp, ← hN, hp]
          show (if dd < lw w p 1 ∨ (lw w p 1 = dd ∧ t < lw w p 0) then posL w t dd p else p + 1) = p + 1
          rw [if_neg q]
        have put := put g (by rw [ez]; exact hg)
        rw [ez] at put
        exact put
  refine Vm.intro rfl (Nat.le_of_ble_eq_true rfl) (fun _ => B_X8_addLaw_0 ?_)
  refine gI_i c.1 rfl (gR_i c.1 rfl (nR_i c.2.1 ⟨i3 (by omega) (by omega), ?_⟩))
  refine cc_within (fun _ => ?_) (fun q => absurd (by omega) q)
  simp only [kI_some, kL_some, kR_some, kV_none, ne_eq, not_true_eq_false, not_false_eq_true, true_implies, false_implies, implies_true, true_and, and_true, ab_z01, or_true, true_or, reduceCtorEq, Option.some.injEq, Int.reduceEq, Int.reduceNe, Int.reduceLT, Int.reduceLE, Int.reduceNeg, Int.reduceAdd, Int.reduceSub, Int.reduceMul, Nat.reduceEqDiff, Nat.reduceAdd, Nat.reduceMul, Int.reduceToNat, ↓reduceIte]
  refine gI_i c.1 rfl ?_
  have := loop N (Nat.le_refl _) g1 rfl (fun j hj => ⟨fun _ => rfl, fun z1 z2 => absurd z2 (by omega), fun z1 => (ct.1 j hj).2 (by omega)⟩)
  rw [hsR_self c.2.1, n1] at this
  exact this
theorem lwF_del {R : Nat → Int} {n k i : Nat} (hn : R 0 = (n : Int)) (hk : k < n) (hi : i + 1 < n) : lwF (delW R k) i = if i < k then lwF R i else lwF R (i + 1) := by
  unfold lwF
  rw [lw_del hn hk hi (by decide), lw_del hn hk hi (by decide), lw_del hn hk hi (by decide), lw_del hn hk hi (by decide), lw_del hn hk hi (by decide), lw_del hn hk hi (by decide)]
  by_cases c : i < k
  · simp only [if_pos c]
  · simp only [if_neg c]
set_option maxRecDepth 100000 in
set_option maxHeartbeats 4000000 in
theorem cm_delLaw {d : Nat} {h0 h : AbH} {K : Option AbV → AbH → Prop} {P : Nat → Prop} {a k : Nat} {w : Nat → Int} (m : MW P h0 h a w) (hk : k < nl w) (kk : ∀ h', MW P h0 h' a (delW w k) → Xt (ab_new h0) h h' → K none h') : Vm (d + 3) m_X8_removeLaw [vR (some a), vI (k : Int)] h K := by
  obtain ⟨hw, al, ao, af, ae, g1, g2, ff, fl, c, ct, n⟩ := m
  obtain ⟨n1, n2⟩ := hw.nlw
  obtain ⟨q1, q2, q3⟩ := wV_del hw hk
  have al_ne := n.2.1
  refine Vm.intro rfl (Nat.le_of_ble_eq_true rfl) (fun _ => B_X8_removeLaw_0 ?_)
  refine cv_i c.1 (cr_lawAt c ?_)
  obtain ⟨bk, b1, b2, b3⟩ := (ct.1 k (by omega)).1 hk
  have er : rAt g1 16 (k : Int) = some bk := by unfold rAt; rw [if_pos (by omega), Int.toNat_natCast, b1]
  rw [er]
  simp only [kI_some, kL_some, kR_some, kV_none, ne_eq, not_true_eq_false, not_false_eq_true, true_implies, false_implies, implies_true, true_and, and_true, ab_z01, or_true, true_or, reduceCtorEq, Option.some.injEq, Int.reduceEq, Int.reduceNe, Int.reduceLT, Int.reduceLE, Int.reduceNeg, Int.reduceAdd, Int.reduceSub, Int.reduceMul, Nat.reduceEqDiff, Nat.reduceAdd, Nat.reduceMul, Int.reduceToNat, ↓reduceIte]
  have key := lp_up (P := fun i => k ≤ i → ∀ g, (∀ j, j < 16 → (j < k → g j = g1 j) ∧ (k ≤ j → j < i → g j = rAt g1 16 ((j : Int) + 1)) ∧ (i ≤ j → g j = g1 j)) → Vx (d + 3) m_X8_removeLaw 0 0 11 [some (vR (some a)), some (vI (k : Int)), some (vI (i : Int))] [] (hsR h al (0, 16, g)) K) (n := 16) ?_ ?_ k (by omega) (Nat.le_refl _) g1 (fun j hj => ⟨fun _ => rfl, fun z1 z2 => absurd z2 (by omega), fun _ => rfl⟩)
  · rw [hsR_self c.2.1] at key
    exact key
  · intro _ g hg
    have c1 := c.s1 al_ne g
    refine B_X8_removeLaw_11 (gR_i c1.1 rfl (nR_i c1.2.1 ⟨fun _ => ?_, fun z => absurd (by decide) z⟩))
    refine gI_i c1.1 rfl ⟨i3 (by omega) (by omega), p_i c1.1 (by show 4 < 6; decide) ?_⟩
    have c3 := c1.s0 (w 0 - 1) (w 1)
    have e0 : delW w k 0 = w 0 - 1 := by rw [del_app, if_pos rfl]
    have out : ∀ j, j = 1 ∨ 98 ≤ j → delW w k j = w j := fun j hj => by rw [del_app, if_neg (by omega), if_neg (by omega)]
    refine kk _ ⟨q1, al, ao, af, ae, g, g2, ff, fl, by rw [e0, out 1 (Or.inl rfl)]; exact c3, ?_, n⟩ ((xt_R (Or.inl n.1.2.1)).tr (xt_O (Or.inl n.1.1)))
    refine CT.mv (h := h) ?_ (fun b n fs h1 h2 h3 => O7 (h := hsR h al (0, 16, g)) (fs := [vR (some al), vR (some ao), vR (some af), vR (some ae), vI (w 0), vI (w 1)]) c.1 P b n fs h1 h2 h3)
    refine ⟨fun j hj => ?_, fun j hj => ?_, fun q hq => ?_⟩
    · rw [q2]
      obtain ⟨a1, a2, a3⟩ := hg j hj
      by_cases cj : j < k
      · rw [a1 cj]
        refine ⟨fun zz => ?_, fun zz => absurd (by omega) zz⟩
        rw [lwF_del n1.symm hk (by omega), if_pos cj]
        exact (ct.1 j hj).1 (by omega)
      · rw [a2 (by omega) hj]
        unfold rAt
        refine ⟨fun zz => ?_, fun zz => ?_⟩
        · rw [if_pos (by omega), show ((j : Int) + 1).toNat = j + 1 by omega, lwF_del n1.symm hk (by omega), if_neg cj]
          exact (ct.1 (j + 1) (by omega)).1 (by omega)
        · by_cases c5 : j + 1 < 16
          · rw [if_pos (by omega), show ((j : Int) + 1).toNat = j + 1 by omega]
            exact (ct.1 (j + 1) c5).2 (by omega)
          · rw [if_neg (by omega)]
    · rw [q3]
      have := ct.2.1 j hj
      refine ⟨fun zz => ?_, this.2⟩
      rw [loF_eq (hw.2.2.2.2 j zz) (fun i _ => lo_out (fun i hi => out i (Or.inr hi)))]
      exact this.1 zz
    · rw [out _ (Or.inr (by omega)), out _ (Or.inr (by omega))]
      exact ct.2.2 q hq
  · intro i hi ih hki g hg
    have c1 := c.s1 al_ne g
    refine B_X8_removeLaw_11 (gR_i c1.1 rfl (nR_i c1.2.1 ⟨fun z => absurd z (by omega), fun _ => ?_⟩))
    refine gR_i c1.1 rfl ⟨i3 (by omega) (by omega), cv_i c1.1 (cr_lawAt c1 ?_)⟩
    simp only [kI_some, kL_some, kR_some, kV_none, ne_eq, not_true_eq_false, not_false_eq_true, true_implies, false_implies, implies_true, true_and, and_true, ab_z01, or_true, true_or, reduceCtorEq, Option.some.injEq, Int.reduceEq, Int.reduceNe, Int.reduceLT, Int.reduceLE, Int.reduceNeg, Int.reduceAdd, Int.reduceSub, Int.reduceMul, Nat.reduceEqDiff, Nat.reduceAdd, Nat.reduceMul, Int.reduceToNat, ↓reduceIte]
    have eg : rAt g 16 ((i : Int) + 1) = rAt g1 16 ((i : Int) + 1) := by
      unfold rAt
      by_cases c5 : i + 1 < 16
      · rw [if_pos (by omega), if_pos (by omega), show ((i : Int) + 1).toNat = i + 1 by omega]
        exact (hg (i + 1) c5).2.2 (by omega)
      · rw [if_neg (by omega), if_neg (by omega)]
    refine sR_i c1.2.1 (by omega) (by omega) (fun b eb => ?_) ?_
    · rw [eg] at eb
      unfold rAt at eb
      by_cases c5 : i + 1 < 16
      · rw [if_pos (by omega), show ((i : Int) + 1).toNat = i + 1 by omega] at eb
        by_cases c6 : i + 1 < nl w
        · obtain ⟨b', y1, y2, y3⟩ := (ct.1 (i + 1) c5).1 c6
          rw [y1] at eb
          have eb : b' = b := by simpa using eb
          rw [← eb]
          exact ⟨_, y3⟩
        · rw [(ct.1 (i + 1) c5).2 c6] at eb
          cases eb
      · rw [if_neg (by omega)] at eb
        cases eb
    · rw [hsR_up, Int.toNat_natCast]
      refine ⟨i3 (by omega) (by omega), ih (by omega) _ (fun j hj => ?_)⟩
      obtain ⟨a1, a2, a3⟩ := hg j hj
      by_cases ej : j = i
      · rw [ej, vu_same]
        exact ⟨fun z => absurd z (by omega), fun _ _ => eg, fun z => absurd z (by omega)⟩
      · rw [vu_ne ej]
        exact ⟨a1, fun z1 z2 => a2 z1 (by omega), fun z => a3 (by omega)⟩
