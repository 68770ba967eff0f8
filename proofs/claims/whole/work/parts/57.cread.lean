/-! clauses read into a world in the making -/
def RD (P : Nat → Prop) (h0 h : AbH) (ax ab : Nat) (T : Nat → Int) (L c s a : Nat) (W : Nat → Int) : Prop := TK h ax ab T L c s ∧ MW P h0 h a W ∧ Xt (A1 ax) h0 h
theorem RD.tx {P : Nat → Prop} {h0 h h' : AbH} {ax ab : Nat} {T : Nat → Int} {L c s a c' s' : Nat} {W : Nat → Int} (r : RD P h0 h ax ab T L c s a W) (hP : ∀ q, P q → ¬ ab_new h0 q) (px : P ax) (t : TK h' ax ab T L c' s') (x : Xt (A1 ax) h h') : RD P h0 h' ax ab T L c' s' a W := by
  have x' : Xt P h h' := x.mono (fun q e => by rw [show q = ax from e]; exact px)
  exact ⟨t, r.2.1.mv hP x', r.2.2.tr x⟩
theorem RD.wd {P : Nat → Prop} {h0 h h' : AbH} {ax ab : Nat} {T : Nat → Int} {L c s a : Nat} {W W' : Nat → Int} (r : RD P h0 h ax ab T L c s a W) (hP : ∀ q, P q → ¬ ab_new h0 q) (px : P ax) (pb : P ab) (m : MW P h0 h' a W') (x : Xt (ab_new h0) h h') : RD P h0 h' ax ab T L c s a W' := ⟨r.1.mv x (hP _ px) (hP _ pb), m, r.2.2.trN x⟩
theorem snd_b {T : Nat → Int} {L s : Nat} : sndH T L s = -1 ∨ (0 ≤ sndH T L s ∧ sndH T L s ≤ 25) := by
  unfold sndH
  split
  · right; omega
  · exact Or.inl rfl
set_option maxRecDepth 100000 in
set_option maxHeartbeats 4000000 in
theorem cc_readPair {d : Nat} {h : AbH} {K : Option AbV → AbH → Prop} {ax ab : Nat} {T : Nat → Int} {L c s : Nat} (t : TK h ax ab T L c s) (hT : txV T L) (kF : ∀ h' s', (∀ g, psTwo T L g s = (none, s')) → TK h' ax ab T L c s' → Xt (A1 ax) h h' → K (some (vI (-1))) h') (kk : ∀ h' f t s', tg f → tg t → f ≠ t → (∀ g, psTwo T L g s = g f t s') → TK h' ax ab T L c s' → Xt (A1 ax) h h' → K (some (vI (f * 4 + t))) h') : Vm (d + 3) m_X5_readPair [vR (some ax)] h K := by
  refine Vm.intro rfl (Nat.le_of_ble_eq_true rfl) (fun _ => B_X5_readPair_0 ?_)
  refine cv_i t.1.1 (cc_number t hT (by decide) (fun q => ?_) (fun q => ?_)) <;> simp only [kI_some, kL_some, kR_some, kV_none, ne_eq, not_true_eq_false, not_false_eq_true, true_implies, false_implies, implies_true, true_and, and_true, ab_z01, or_true, true_or, reduceCtorEq, Option.some.injEq, Int.reduceEq, Int.reduceNe, Int.reduceLT, Int.reduceLE, Int.reduceNeg, Int.reduceAdd, Int.reduceSub, Int.reduceMul, Nat.reduceEqDiff, Nat.reduceAdd, Nat.reduceMul, Int.reduceToNat, ↓reduceIte]
  · refine ⟨fun _ => ?_, fun z => absurd (fun y => by omega) z⟩
    refine cv_i t.1.1 (cc_next t hT (fun h1 t1 x1 => ?_))
    simp only [kI_some, kL_some, kR_some, kV_none, ne_eq, not_true_eq_false, not_false_eq_true, true_implies, false_implies, implies_true, true_and, and_true, ab_z01, or_true, true_or, reduceCtorEq, Option.some.injEq, Int.reduceEq, Int.reduceNe, Int.reduceLT, Int.reduceLE, Int.reduceNeg, Int.reduceAdd, Int.reduceSub, Int.reduceMul, Nat.reduceEqDiff, Nat.reduceAdd, Nat.reduceMul, Int.reduceToNat, ↓reduceIte]
    have e1 : ∀ g, psTwo T L g s = psTwo1 T L (numH T L s) g (nx T L s) := fun g => by unfold psTwo; rw [if_pos q]
    refine cv_i t1.1.1 (cc_number t1 hT (by decide) (fun q2 => ?_) (fun q2 => ?_)) <;> simp only [kI_some, kL_some, kR_some, kV_none, ne_eq, not_true_eq_false, not_false_eq_true, true_implies, false_implies, implies_true, true_and, and_true, ab_z01, or_true, true_or, reduceCtorEq, Option.some.injEq, Int.reduceEq, Int.reduceNe, Int.reduceLT, Int.reduceLE, Int.reduceNeg, Int.reduceAdd, Int.reduceSub, Int.reduceMul, Nat.reduceEqDiff, Nat.reduceAdd, Nat.reduceMul, Int.reduceToNat, ↓reduceIte]
    · refine cc_pairOf (fun q3 => ?_) (fun q3 => ?_) <;> simp only [kI_some, kL_some, kR_some, kV_none, ne_eq, not_true_eq_false, not_false_eq_true, true_implies, false_implies, implies_true, true_and, and_true, ab_z01, or_true, true_or, reduceCtorEq, Option.some.injEq, Int.reduceEq, Int.reduceNe, Int.reduceLT, Int.reduceLE, Int.reduceNeg, Int.reduceAdd, Int.reduceSub, Int.reduceMul, Nat.reduceEqDiff, Nat.reduceAdd, Nat.reduceMul, Int.reduceToNat, ↓reduceIte]
      · have h1 := q3.1.1
        have h2 := q3.2.1.1
        refine ⟨fun z => absurd z (by omega), fun _ => ?_⟩
        refine cv_i t1.1.1 (cc_next t1 hT (fun h2 t2 x2 => ?_))
        simp only [kI_some, kL_some, kR_some, kV_none, ne_eq, not_true_eq_false, not_false_eq_true, true_implies, false_implies, implies_true, true_and, and_true, ab_z01, or_true, true_or, reduceCtorEq, Option.some.injEq, Int.reduceEq, Int.reduceNe, Int.reduceLT, Int.reduceLE, Int.reduceNeg, Int.reduceAdd, Int.reduceSub, Int.reduceMul, Nat.reduceEqDiff, Nat.reduceAdd, Nat.reduceMul, Int.reduceToNat, ↓reduceIte]
        refine kk h2 _ _ _ q3.1 q3.2.1 q3.2.2 (fun g => ?_) t2 (x1.tr x2)
        rw [e1]
        unfold psTwo1
        rw [if_pos ⟨q2, fun z => q3.2.2 z.symm⟩]
      · refine kF h1 _ (fun g => ?_) t1 x1
        rw [e1]
        unfold psTwo1
        rw [if_neg (fun z => q3 ⟨⟨by omega, by omega⟩, ⟨by omega, by omega⟩, fun y => z.2 y.symm⟩)]
    · refine cc_pairOf (fun q3 => absurd q3.2.1.1 (by decide)) (fun q3 => ?_)
      simp only [kI_some, kL_some, kR_some, kV_none, ne_eq, not_true_eq_false, not_false_eq_true, true_implies, false_implies, implies_true, true_and, and_true, ab_z01, or_true, true_or, reduceCtorEq, Option.some.injEq, Int.reduceEq, Int.reduceNe, Int.reduceLT, Int.reduceLE, Int.reduceNeg, Int.reduceAdd, Int.reduceSub, Int.reduceMul, Nat.reduceEqDiff, Nat.reduceAdd, Nat.reduceMul, Int.reduceToNat, ↓reduceIte]
      refine kF h1 _ (fun g => ?_) t1 x1
      rw [e1]
      unfold psTwo1
      rw [if_neg (fun z => q2 z.1)]
  · refine kF h s (fun g => ?_) t Xt.rf
    unfold psTwo
    rw [if_neg q]
set_option maxRecDepth 100000 in
set_option maxHeartbeats 4000000 in
theorem cc_readLaw {d : Nat} {h0 h : AbH} {K : Option AbV → AbH → Prop} {P : Nat → Prop} {ax ab : Nat} {T : Nat → Int} {L c s a : Nat} {W : Nat → Int} (r : RD P h0 h ax ab T L c s a W) (hT : txV T L) (hP : ∀ q, P q → ¬ ab_new h0 q) (px : P ax) (pb : P ab) (kF : ∀ h' s', (if W 0 = 16 then (none, s) else psLaw T L W (nx T L s)) = (none, s') → RD P h0 h' ax ab T L c s' a W → K (some (vI 0)) h') (kk : ∀ h' W' s', (if W 0 = 16 then (none, s) else psLaw T L W (nx T L s)) = (some W', s') → RD P h0 h' ax ab T L c s' a W' → K (some (vI 1)) h') : Vm (d + 4) m_X5_readLaw [vR (some ax), vR (some a)] h K := by
  have hw := r.2.1.1
  obtain ⟨n1, n2⟩ := hw.nlw
  refine Vm.intro rfl (Nat.le_of_ble_eq_true rfl) (fun _ => B_X5_readLaw_0 ?_)
  have wo : ∀ {h s}, RD P h0 h ax ab T L c s a W → ∃ al ao af ae g1 g2 ff fl, CX P h a W al ao af ae g1 g2 ff fl := fun r => by
    obtain ⟨-, al, ao, af, ae, g1, g2, ff, fl, c, ct, -⟩ := r.2.1
    exact ⟨al, ao, af, ae, g1, g2, ff, fl, CX_mk c ct⟩
  obtain ⟨al, ao, af, ae, g1, g2, ff, fl, cx⟩ := wo r
  refine gI_i cx.1 rfl ⟨fun q16 => ?_, fun q16 => ?_⟩
  rotate_left
  · exact kF h s (by rw [if_pos (by omega)]) r
  rw [if_neg (show ¬ W 0 = 16 by omega)] at kF kk
  clear cx
  refine cv_i r.1.1.1 (cc_next r.1 hT (fun h1 t1 x1 => ?_))
  simp only [kI_some, kL_some, kR_some, kV_none, ne_eq, not_true_eq_false, not_false_eq_true, true_implies, false_implies, implies_true, true_and, and_true, ab_z01, or_true, true_or, reduceCtorEq, Option.some.injEq, Int.reduceEq, Int.reduceNe, Int.reduceLT, Int.reduceLE, Int.reduceNeg, Int.reduceAdd, Int.reduceSub, Int.reduceMul, Nat.reduceEqDiff, Nat.reduceAdd, Nat.reduceMul, Int.reduceToNat, ↓reduceIte]
  have r1 := r.tx hP px t1 x1
  clear t1 x1
  refine cv_i r1.1.1.1 (cc_number r1.1 hT (by decide) (fun qt => ?_) (fun qt => ?_)) <;> simp only [kI_some, kL_some, kR_some, kV_none, ne_eq, not_true_eq_false, not_false_eq_true, true_implies, false_implies, implies_true, true_and, and_true, ab_z01, or_true, true_or, reduceCtorEq, Option.some.injEq, Int.reduceEq, Int.reduceNe, Int.reduceLT, Int.reduceLE, Int.reduceNeg, Int.reduceAdd, Int.reduceSub, Int.reduceMul, Nat.reduceEqDiff, Nat.reduceAdd, Nat.reduceMul, Int.reduceToNat, ↓reduceIte]
  rotate_left
  · refine kF h1 _ ?_ r1
    unfold psLaw
    rw [if_neg qt]
  have e1 : psLaw T L W (nx T L s) = psLaw1 T L W (numH T L (nx T L s)) (nx T L (nx T L s)) := by unfold psLaw; rw [if_pos qt]
  rw [e1] at kF kk
  obtain ⟨t, ht⟩ : ∃ t, t = numH T L (nx T L s) := ⟨_, rfl⟩
  rw [← ht] at kF kk qt ⊢
  refine ⟨fun _ => ?_, fun z => absurd (fun y => by omega) z⟩
  refine cv_i r1.1.1.1 (cc_next r1.1 hT (fun h2 t2 x2 => ?_))
  simp only [kI_some, kL_some, kR_some, kV_none, ne_eq, not_true_eq_false, not_false_eq_true, true_implies, false_implies, implies_true, true_and, and_true, ab_z01, or_true, true_or, reduceCtorEq, Option.some.injEq, Int.reduceEq, Int.reduceNe, Int.reduceLT, Int.reduceLE, Int.reduceNeg, Int.reduceAdd, Int.reduceSub, Int.reduceMul, Nat.reduceEqDiff, Nat.reduceAdd, Nat.reduceMul, Int.reduceToNat, ↓reduceIte]
  have r2 := r1.tx hP px t2 x2
  clear t2 x2 e1
  obtain ⟨s2, hs2⟩ : ∃ s2, s2 = nx T L (nx T L s) := ⟨_, rfl⟩
  rw [← hs2] at kF kk r2
  refine cv_i r2.1.1.1 (cc_number r2.1 hT (by decide) (fun qd => ?_) (fun qd => ?_)) <;> simp only [kI_some, kL_some, kR_some, kV_none, ne_eq, not_true_eq_false, not_false_eq_true, true_implies, false_implies, implies_true, true_and, and_true, ab_z01, or_true, true_or, reduceCtorEq, Option.some.injEq, Int.reduceEq, Int.reduceNe, Int.reduceLT, Int.reduceLE, Int.reduceNeg, Int.reduceAdd, Int.reduceSub, Int.reduceMul, Nat.reduceEqDiff, Nat.reduceAdd, Nat.reduceMul, Int.reduceToNat, ↓reduceIte]
  rotate_left
  · refine kF h2 _ ?_ r2
    unfold psLaw1
    rw [if_neg (fun z => qd z.1)]
  obtain ⟨dd, hdd⟩ : ∃ dd, dd = numH T L s2 := ⟨_, rfl⟩
  rw [← hdd] at qd ⊢
  refine ⟨fun z => absurd z (by omega), fun _ => ?_⟩
  obtain ⟨al, ao, af, ae, g1, g2, ff, fl, cx⟩ := wo r2
  refine cv_i cx.1 (cc_hasLaw hw cx ?_)
  clear cx
  simp only [kI_some, kL_some, kR_some, kV_none, ne_eq, not_true_eq_false, not_false_eq_true, true_implies, false_implies, implies_true, true_and, and_true, ab_z01, or_true, true_or, reduceCtorEq, Option.some.injEq, Int.reduceEq, Int.reduceNe, Int.reduceLT, Int.reduceLE, Int.reduceNeg, Int.reduceAdd, Int.reduceSub, Int.reduceMul, Nat.reduceEqDiff, Nat.reduceAdd, Nat.reduceMul, Int.reduceToNat, ↓reduceIte]
  refine ⟨fun qh => ?_, fun qh => ?_⟩
  rotate_left
  · refine kF h2 _ ?_ r2
    unfold psLaw1
    rw [if_neg]
    intro z
    rw [← hdd] at z
    refine qh (b2i_f z.2)
  have qh : ¬ hasL W t dd (nl W) = true := fun z => by rw [b2i_t z] at qh; exact absurd qh (by decide)
  have e2 : psLaw1 T L W t s2 = psLaw2 T L W t dd (nx T L s2) := by unfold psLaw1; rw [← hdd, if_pos ⟨qd, qh⟩]
  rw [e2] at kF kk
  refine cv_i r2.1.1.1 (cc_next r2.1 hT (fun h3 t3 x3 => ?_))
  simp only [kI_some, kL_some, kR_some, kV_none, ne_eq, not_true_eq_false, not_false_eq_true, true_implies, false_implies, implies_true, true_and, and_true, ab_z01, or_true, true_or, reduceCtorEq, Option.some.injEq, Int.reduceEq, Int.reduceNe, Int.reduceLT, Int.reduceLE, Int.reduceNeg, Int.reduceAdd, Int.reduceSub, Int.reduceMul, Nat.reduceEqDiff, Nat.reduceAdd, Nat.reduceMul, Int.reduceToNat, ↓reduceIte]
  have r3 := r2.tx hP px t3 x3
  clear t3 x3 e2
  obtain ⟨s3, hs3⟩ : ∃ s3, s3 = nx T L s2 := ⟨_, rfl⟩
  rw [← hs3] at kF kk r3
  refine cv_i r3.1.1.1 (cc_letter r3.1 hT ?_)
  simp only [kI_some, kL_some, kR_some, kV_none, ne_eq, not_true_eq_false, not_false_eq_true, true_implies, false_implies, implies_true, true_and, and_true, ab_z01, or_true, true_or, reduceCtorEq, Option.some.injEq, Int.reduceEq, Int.reduceNe, Int.reduceLT, Int.reduceLE, Int.reduceNeg, Int.reduceAdd, Int.reduceSub, Int.reduceMul, Nat.reduceEqDiff, Nat.reduceAdd, Nat.reduceMul, Int.reduceToNat, ↓reduceIte]
  have bx := snd_b (T := T) (L := L) (s := s3)
  refine ⟨fun qx => ?_, fun qx => ?_⟩
  rotate_left
  · refine kF h3 _ ?_ r3
    unfold psLaw2
    rw [if_pos (Classical.byContradiction qx)]
  have e3 : psLaw2 T L W t dd s3 = psLaw3 T L W t dd (sndH T L s3) (nx T L s3) := by unfold psLaw2; rw [if_neg qx]
  rw [e3] at kF kk
  obtain ⟨x, hx⟩ : ∃ x, x = sndH T L s3 := ⟨_, rfl⟩
  rw [← hx] at kF kk qx bx ⊢
  refine cv_i r3.1.1.1 (cc_next r3.1 hT (fun h4 t4 x4 => ?_))
  simp only [kI_some, kL_some, kR_some, kV_none, ne_eq, not_true_eq_false, not_false_eq_true, true_implies, false_implies, implies_true, true_and, and_true, ab_z01, or_true, true_or, reduceCtorEq, Option.some.injEq, Int.reduceEq, Int.reduceNe, Int.reduceLT, Int.reduceLE, Int.reduceNeg, Int.reduceAdd, Int.reduceSub, Int.reduceMul, Nat.reduceEqDiff, Nat.reduceAdd, Nat.reduceMul, Int.reduceToNat, ↓reduceIte]
  have r4 := r3.tx hP px t4 x4
  clear t4 x4 e3
  obtain ⟨s4, hs4⟩ : ∃ s4, s4 = nx T L s3 := ⟨_, rfl⟩
  rw [← hs4] at kF kk r4
  refine cv_i r4.1.1.1 (cc_letter r4.1 hT ?_)
  simp only [kI_some, kL_some, kR_some, kV_none, ne_eq, not_true_eq_false, not_false_eq_true, true_implies, false_implies, implies_true, true_and, and_true, ab_z01, or_true, true_or, reduceCtorEq, Option.some.injEq, Int.reduceEq, Int.reduceNe, Int.reduceLT, Int.reduceLE, Int.reduceNeg, Int.reduceAdd, Int.reduceSub, Int.reduceMul, Nat.reduceEqDiff, Nat.reduceAdd, Nat.reduceMul, Int.reduceToNat, ↓reduceIte]
  have bY := snd_b (T := T) (L := L) (s := s4)
  obtain ⟨y, hy⟩ : ∃ y, y = sndH T L s4 := ⟨_, rfl⟩
  rw [← hy] at bY ⊢
  -- the law is made
  have F157 : ∀ h9 s9 y e z, RD P h0 h9 ax ab T L c s9 a W → lawV t dd x y e (if e = 0 then -1 else z) → (∀ h', RD P h0 h' ax ab T L c s9 a (insW W (nl W) (posL W t dd (nl W)) (lfs t dd x y e z)) → K (some (vI 1)) h') → Vx (d + 4) m_X5_readLaw 1 6 157 [some (vR (some ax)), some (vR (some a)), some (vI t), some (vI dd), some (vI x), some (vI y), some (vI e), some (vI z)] [] h9 K := by
    intro h9 s9 y e z r9 hlv hk
    refine B_X5_readLaw_157 ⟨Nat.le_refl _, Nat.le_refl _, fun b nb hb ehb => ?_⟩
    subst ehb
    refine cr_lawInit (by rw [hO_O, if_pos rfl]) rfl (fun h10 o10 f10 _ _ _ => ?_)
    simp only [kI_some, kL_some, kR_some, kV_none, ne_eq, not_true_eq_false, not_false_eq_true, true_implies, false_implies, implies_true, true_and, and_true, ab_z01, or_true, true_or, reduceCtorEq, Option.some.injEq, Int.reduceEq, Int.reduceNe, Int.reduceLT, Int.reduceLE, Int.reduceNeg, Int.reduceAdd, Int.reduceSub, Int.reduceMul, Nat.reduceEqDiff, Nat.reduceAdd, Nat.reduceMul, Int.reduceToNat, ↓reduceIte]
    have y10 : ∀ Q, Xt Q h9 h10 := fun Q => f10 Q h9 (Xt.rf.nO nb) nb
    have r10 : RD P h0 h10 ax ab T L c s9 a W := ⟨r9.1.mv (y10 (fun _ => False)) id id, r9.2.1.mv hP (y10 P), r9.2.2.tr (y10 (A1 ax))⟩
    have nb0 := r9.2.2.new nb
    obtain ⟨al, ao, af, ae, g1, g2, ff, fl, cx⟩ := wo r10
    refine cv_i cx.1 ?_
    refine cm_addLaw r10.2.1 (by omega) hlv qh o10 (fun zz => hP _ zz nb0) (fun h11 m11 x11 => ?_)
    simp only [kI_some, kL_some, kR_some, kV_none, ne_eq, not_true_eq_false, not_false_eq_true, true_implies, false_implies, implies_true, true_and, and_true, ab_z01, or_true, true_or, reduceCtorEq, Option.some.injEq, Int.reduceEq, Int.reduceNe, Int.reduceLT, Int.reduceLE, Int.reduceNeg, Int.reduceAdd, Int.reduceSub, Int.reduceMul, Nat.reduceEqDiff, Nat.reduceAdd, Nat.reduceMul, Int.reduceToNat, ↓reduceIte]
    exact hk h11 (r10.wd hP px pb m11 x11)
  -- from the environment on
  have tail : ∀ y, (∀ h' s', psLaw4 T L W t dd x y (nx T L s4) = (none, s') → RD P h0 h' ax ab T L c s' a W → K (some (vI 0)) h') → (∀ h' W' s', psLaw4 T L W t dd x y (nx T L s4) = (some W', s') → RD P h0 h' ax ab T L c s' a W' → K (some (vI 1)) h') → -1 ≤ y → y ≤ 25 → x ≠ y → wpCV h4 (some ax) 4 (fun b27 => Vm (d + 3) m_X5_advance [vR (some b27)] h4 (kV (fun h16 => wpCV h16 (some ax) 4 (fun b26 => Vm (d + 3) m_X5_environment [vR (some b26)] h16 (kI (fun n18 h17 => ((n18 ≠ (-1) → wpCV h17 (some ax) 4 (fun b25 => Vm (d + 3) m_X5_advance [vR (some b25)] h17 (kV (fun h19 => ((n18 = 0 → Vx (d + 4) m_X5_readLaw 1 6 157 [some (vR (some ax)), some (vR (some a)), some (vI t), some (vI dd), some (vI x), some (vI y), some (vI n18), some (vI (-1))] [] h19 K) ∧ (¬ (n18 = 0) → wpCV h19 (some ax) 4 (fun b24 => Vm (d + 3) m_X5_letter [vR (some b24)] h19 (kI (fun n21 h20 => ((n21 ≠ (-1) → wpCV h20 (some ax) 4 (fun b23 => Vm (d + 3) m_X5_advance [vR (some b23)] h20 (kV (fun h22 => Vx (d + 4) m_X5_readLaw 1 6 157 [some (vR (some ax)), some (vR (some a)), some (vI t), some (vI dd), some (vI x), some (vI y), some (vI n18), some (vI n21)] [] h22 K)))) ∧ (¬ (n21 ≠ (-1)) → K (some (vI 0)) h20))))))))))) ∧ (¬ (n18 ≠ (-1)) → K (some (vI 0)) h17)))))))) := by
    intro y kF kk hy1 hy2 hxy
    refine cv_i r4.1.1.1 (cc_next r4.1 hT (fun h5 t5 x5 => ?_))
    simp only [kI_some, kL_some, kR_some, kV_none, ne_eq, not_true_eq_false, not_false_eq_true, true_implies, false_implies, implies_true, true_and, and_true, ab_z01, or_true, true_or, reduceCtorEq, Option.some.injEq, Int.reduceEq, Int.reduceNe, Int.reduceLT, Int.reduceLE, Int.reduceNeg, Int.reduceAdd, Int.reduceSub, Int.reduceMul, Nat.reduceEqDiff, Nat.reduceAdd, Nat.reduceMul, Int.reduceToNat, ↓reduceIte]
    have r5 := r4.tx hP px t5 x5
    clear t5 x5
    obtain ⟨s5, hs5⟩ : ∃ s5, s5 = nx T L s4 := ⟨_, rfl⟩
    rw [← hs5] at kF kk r5
    have with' : ∀ e, (e = 1 ∨ e = 2) → psLaw4 T L W t dd x y s5 = psLaw5 T L W t dd x y e (nx T L s5) → ∀ h6, RD P h0 h6 ax ab T L c (nx T L s5) a W → wpCV h6 (some ax) 4 (fun b24 => Vm (d + 3) m_X5_letter [vR (some b24)] h6 (kI (fun n21 h20 => ((n21 ≠ (-1) → wpCV h20 (some ax) 4 (fun b23 => Vm (d + 3) m_X5_advance [vR (some b23)] h20 (kV (fun h22 => Vx (d + 4) m_X5_readLaw 1 6 157 [some (vR (some ax)), some (vR (some a)), some (vI t), some (vI dd), some (vI x), some (vI y), some (vI e), some (vI n21)] [] h22 K)))) ∧ (¬ (n21 ≠ (-1)) → K (some (vI 0)) h20))))) := by
      intro e he e5 h6 r6
      refine cv_i r6.1.1.1 (cc_letter r6.1 hT ?_)
      simp only [kI_some, kL_some, kR_some, kV_none, ne_eq, not_true_eq_false, not_false_eq_true, true_implies, false_implies, implies_true, true_and, and_true, ab_z01, or_true, true_or, reduceCtorEq, Option.some.injEq, Int.reduceEq, Int.reduceNe, Int.reduceLT, Int.reduceLE, Int.reduceNeg, Int.reduceAdd, Int.reduceSub, Int.reduceMul, Nat.reduceEqDiff, Nat.reduceAdd, Nat.reduceMul, Int.reduceToNat, ↓reduceIte]
      have bz := snd_b (T := T) (L := L) (s := nx T L s5)
      refine ⟨fun qz => ?_, fun qz => kF h6 _ (by rw [e5]; unfold psLaw5; rw [if_pos (Classical.byContradiction qz)]) r6⟩
      refine cv_i r6.1.1.1 (cc_next r6.1 hT (fun h7 t7 x7 => ?_))
      simp only [kI_some, kL_some, kR_some, kV_none, ne_eq, not_true_eq_false, not_false_eq_true, true_implies, false_implies, implies_true, true_and, and_true, ab_z01, or_true, true_or, reduceCtorEq, Option.some.injEq, Int.reduceEq, Int.reduceNe, Int.reduceLT, Int.reduceLE, Int.reduceNeg, Int.reduceAdd, Int.reduceSub, Int.reduceMul, Nat.reduceEqDiff, Nat.reduceAdd, Nat.reduceMul, Int.reduceToNat, ↓reduceIte]
      have r7 := r6.tx hP px t7 x7
      refine F157 h7 _ y e _ r7 ⟨⟨by omega, by omega⟩, qd, by omega, ⟨hy1, hy2⟩, hxy, by omega, fun z => absurd z (by omega), fun _ => by rw [if_neg (by omega)]; omega⟩ (fun h8 r8 => ?_)
      refine kk h8 _ _ ?_ r8
      rw [e5]
      unfold psLaw5
      rw [if_neg qz]
    refine cv_i r5.1.1.1 (cc_environment r5.1 hT (fun q => ?_) (fun q => ?_) (fun q => ?_) (fun q1 q2 q3 => ?_)) <;> simp only [kI_some, kL_some, kR_some, kV_none, ne_eq, not_true_eq_false, not_false_eq_true, true_implies, false_implies, implies_true, true_and, and_true, ab_z01, or_true, true_or, reduceCtorEq, Option.some.injEq, Int.reduceEq, Int.reduceNe, Int.reduceLT, Int.reduceLE, Int.reduceNeg, Int.reduceAdd, Int.reduceSub, Int.reduceMul, Nat.reduceEqDiff, Nat.reduceAdd, Nat.reduceMul, Int.reduceToNat, ↓reduceIte]
    · refine cv_i r5.1.1.1 (cc_next r5.1 hT (fun h6 t6 x6 => ?_))
      simp only [kI_some, kL_some, kR_some, kV_none, ne_eq, not_true_eq_false, not_false_eq_true, true_implies, false_implies, implies_true, true_and, and_true, ab_z01, or_true, true_or, reduceCtorEq, Option.some.injEq, Int.reduceEq, Int.reduceNe, Int.reduceLT, Int.reduceLE, Int.reduceNeg, Int.reduceAdd, Int.reduceSub, Int.reduceMul, Nat.reduceEqDiff, Nat.reduceAdd, Nat.reduceMul, Int.reduceToNat, ↓reduceIte]
      have r6 := r5.tx hP px t6 x6
      refine F157 h6 _ y 0 (-1) r6 ⟨⟨by omega, by omega⟩, qd, by omega, ⟨hy1, hy2⟩, hxy, by omega, fun _ => rfl, fun z => absurd rfl z⟩ (fun h8 r8 => ?_)
      refine kk h8 _ _ ?_ r8
      unfold psLaw4
      rw [if_pos q]
    · refine cv_i r5.1.1.1 (cc_next r5.1 hT (fun h6 t6 x6 => ?_))
      simp only [kI_some, kL_some, kR_some, kV_none, ne_eq, not_true_eq_false, not_false_eq_true, true_implies, false_implies, implies_true, true_and, and_true, ab_z01, or_true, true_or, reduceCtorEq, Option.some.injEq, Int.reduceEq, Int.reduceNe, Int.reduceLT, Int.reduceLE, Int.reduceNeg, Int.reduceAdd, Int.reduceSub, Int.reduceMul, Nat.reduceEqDiff, Nat.reduceAdd, Nat.reduceMul, Int.reduceToNat, ↓reduceIte]
      exact with' 1 (Or.inl rfl) (by unfold psLaw4; rw [if_neg (fun z => by omega), if_pos q]) h6 (r5.tx hP px t6 x6)
    · refine cv_i r5.1.1.1 (cc_next r5.1 hT (fun h6 t6 x6 => ?_))
      simp only [kI_some, kL_some, kR_some, kV_none, ne_eq, not_true_eq_false, not_false_eq_true, true_implies, false_implies, implies_true, true_and, and_true, ab_z01, or_true, true_or, reduceCtorEq, Option.some.injEq, Int.reduceEq, Int.reduceNe, Int.reduceLT, Int.reduceLE, Int.reduceNeg, Int.reduceAdd, Int.reduceSub, Int.reduceMul, Nat.reduceEqDiff, Nat.reduceAdd, Nat.reduceMul, Int.reduceToNat, ↓reduceIte]
      exact with' 2 (Or.inr rfl) (by unfold psLaw4; rw [if_neg (fun z => by omega), if_neg (fun z => by omega), if_pos q]) h6 (r5.tx hP px t6 x6)
    · refine kF h5 _ ?_ r5
      unfold psLaw4
      rw [if_neg q1, if_neg q2, if_neg q3]
  have no45 : sndH T L s4 ≠ -1 → ¬ (s4 < L ∧ T s4 = 45) := fun z1 z2 => by
    refine z1 ?_
    unfold sndH
    rw [if_neg (fun z3 => by omega)]
  refine ⟨fun q => ?_, fun q => ?_⟩
  · refine kF h4 _ ?_ r4
    unfold psLaw3
    rw [if_neg (no45 (by omega)), if_pos (Or.inr (by rw [← hy]; exact q))]
  · refine ⟨fun q2 => ?_, fun q2 => ?_⟩
    · have e4 : psLaw3 T L W t dd x s4 = psLaw4 T L W t dd x y (nx T L s4) := by
        unfold psLaw3
        rw [if_neg (no45 (by rw [← hy]; exact q2)), ← hy, if_neg (by omega)]
      rw [e4] at kF kk
      exact tail y kF kk (by omega) (by omega) (fun z => q z.symm)
    · have q2 := Classical.byContradiction q2
      refine cv_i r4.1.1.1 (cc_isSign r4.1 hT (by decide) (fun q3 => ?_) (fun q3 => ?_)) <;> simp only [kI_some, kL_some, kR_some, kV_none, ne_eq, not_true_eq_false, not_false_eq_true, true_implies, false_implies, implies_true, true_and, and_true, ab_z01, or_true, true_or, reduceCtorEq, Option.some.injEq, Int.reduceEq, Int.reduceNe, Int.reduceLT, Int.reduceLE, Int.reduceNeg, Int.reduceAdd, Int.reduceSub, Int.reduceMul, Nat.reduceEqDiff, Nat.reduceAdd, Nat.reduceMul, Int.reduceToNat, ↓reduceIte]
      · have e4 : psLaw3 T L W t dd x s4 = psLaw4 T L W t dd x (-1) (nx T L s4) := by
          unfold psLaw3
          rw [if_pos q3]
        rw [e4] at kF kk
        rw [q2]
        exact tail (-1) kF kk (by omega) (by omega) (by omega)
      · refine kF h4 _ ?_ r4
        unfold psLaw3
        rw [if_neg q3, if_pos (Or.inl (by rw [← hy]; exact q2))]
