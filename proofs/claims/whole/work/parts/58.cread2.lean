set_option maxRecDepth 100000 in
set_option maxHeartbeats 4000000 in
theorem cc_readMeeting {d : Nat} {h0 h : AbH} {K : Option AbV → AbH → Prop} {P : Nat → Prop} {ax ab : Nat} {T : Nat → Int} {L c s a : Nat} {W : Nat → Int} (r : RD P h0 h ax ab T L c s a W) (hT : txV T L) (hP : ∀ q, P q → ¬ ab_new h0 q) (px : P ax) (pb : P ab) (kF : ∀ h' s', psTwo T L (psMeet2 T L W) (nx T L s) = (none, s') → RD P h0 h' ax ab T L c s' a W → K (some (vI 0)) h') (kk : ∀ h' W' s', psTwo T L (psMeet2 T L W) (nx T L s) = (some W', s') → RD P h0 h' ax ab T L c s' a W' → K (some (vI 1)) h') : Vm (d + 4) m_X5_readMeeting [vR (some ax), vR (some a)] h K := by
  have hw := r.2.1.1
  refine Vm.intro rfl (Nat.le_of_ble_eq_true rfl) (fun _ => B_X5_readMeeting_0 ?_)
  refine cv_i r.1.1.1 (cc_next r.1 hT (fun h1 t1 x1 => ?_))
  simp only [kI_some, kL_some, kR_some, kV_none, ne_eq, not_true_eq_false, not_false_eq_true, true_implies, false_implies, implies_true, true_and, and_true, ab_z01, or_true, true_or, reduceCtorEq, Option.some.injEq, Int.reduceEq, Int.reduceNe, Int.reduceLT, Int.reduceLE, Int.reduceNeg, Int.reduceAdd, Int.reduceSub, Int.reduceMul, Nat.reduceEqDiff, Nat.reduceAdd, Nat.reduceMul, Int.reduceToNat, ↓reduceIte]
  have r1 := r.tx hP px t1 x1
  clear t1 x1
  refine cv_i r1.1.1.1 (cc_readPair r1.1 hT (fun h2 s2 e2 t2 x2 => ?_) (fun h2 f t s2 hf ht hft e2 t2 x2 => ?_)) <;> simp only [kI_some, kL_some, kR_some, kV_none, ne_eq, not_true_eq_false, not_false_eq_true, true_implies, false_implies, implies_true, true_and, and_true, ab_z01, or_true, true_or, reduceCtorEq, Option.some.injEq, Int.reduceEq, Int.reduceNe, Int.reduceLT, Int.reduceLE, Int.reduceNeg, Int.reduceAdd, Int.reduceSub, Int.reduceMul, Nat.reduceEqDiff, Nat.reduceAdd, Nat.reduceMul, Int.reduceToNat, ↓reduceIte]
  · exact kF h2 s2 (e2 _) (r1.tx hP px t2 x2)
  have r2 := r1.tx hP px t2 x2
  clear t2 x2
  rw [e2] at kF kk
  have hf1 := hf.1
  have ht1 := ht.1
  refine ⟨fun _ => ?_, fun z => absurd (fun y => by omega) z⟩
  refine cv_i r2.1.1.1 (cc_number r2.1 hT (by decide) (fun qa => ?_) (fun qa => ?_)) <;> simp only [kI_some, kL_some, kR_some, kV_none, ne_eq, not_true_eq_false, not_false_eq_true, true_implies, false_implies, implies_true, true_and, and_true, ab_z01, or_true, true_or, reduceCtorEq, Option.some.injEq, Int.reduceEq, Int.reduceNe, Int.reduceLT, Int.reduceLE, Int.reduceNeg, Int.reduceAdd, Int.reduceSub, Int.reduceMul, Nat.reduceEqDiff, Nat.reduceAdd, Nat.reduceMul, Int.reduceToNat, ↓reduceIte]
  rotate_left
  · refine kF h2 _ ?_ r2
    unfold psMeet2
    rw [if_neg qa]
  have e3 : psMeet2 T L W f t s2 = psMeet3 T L W f t (numH T L s2) (nx T L s2) := by unfold psMeet2; rw [if_pos qa]
  rw [e3] at kF kk
  obtain ⟨u, hu⟩ : ∃ u, u = numH T L s2 := ⟨_, rfl⟩
  rw [← hu] at kF kk qa ⊢
  refine ⟨fun _ => ?_, fun z => absurd (fun y => by omega) z⟩
  refine cv_i r2.1.1.1 (cc_next r2.1 hT (fun h3 t3 x3 => ?_))
  simp only [kI_some, kL_some, kR_some, kV_none, ne_eq, not_true_eq_false, not_false_eq_true, true_implies, false_implies, implies_true, true_and, and_true, ab_z01, or_true, true_or, reduceCtorEq, Option.some.injEq, Int.reduceEq, Int.reduceNe, Int.reduceLT, Int.reduceLE, Int.reduceNeg, Int.reduceAdd, Int.reduceSub, Int.reduceMul, Nat.reduceEqDiff, Nat.reduceAdd, Nat.reduceMul, Int.reduceToNat, ↓reduceIte]
  have r3 := r2.tx hP px t3 x3
  clear t3 x3
  refine cv_i r3.1.1.1 (cc_number r3.1 hT qa.1 (fun qb => ?_) (fun qb => ?_)) <;> simp only [kI_some, kL_some, kR_some, kV_none, ne_eq, not_true_eq_false, not_false_eq_true, true_implies, false_implies, implies_true, true_and, and_true, ab_z01, or_true, true_or, reduceCtorEq, Option.some.injEq, Int.reduceEq, Int.reduceNe, Int.reduceLT, Int.reduceLE, Int.reduceNeg, Int.reduceAdd, Int.reduceSub, Int.reduceMul, Nat.reduceEqDiff, Nat.reduceAdd, Nat.reduceMul, Int.reduceToNat, ↓reduceIte]
  rotate_left
  · refine kF h3 _ ?_ r3
    unfold psMeet3
    rw [if_neg qb]
  obtain ⟨v, hv⟩ : ∃ v, v = numH T L (nx T L s2) := ⟨_, rfl⟩
  have e4 : psMeet3 T L W f t u (nx T L s2) = (some (setM W f t (u + 1) v), nx T L (nx T L s2)) := by unfold psMeet3; rw [if_pos qb, hv]
  rw [e4] at kF kk
  rw [← hv] at qb ⊢
  refine ⟨fun _ => ?_, fun z => absurd (fun y => by omega) z⟩
  refine cv_i r3.1.1.1 (cc_next r3.1 hT (fun h4 t4 x4 => ?_))
  simp only [kI_some, kL_some, kR_some, kV_none, ne_eq, not_true_eq_false, not_false_eq_true, true_implies, false_implies, implies_true, true_and, and_true, ab_z01, or_true, true_or, reduceCtorEq, Option.some.injEq, Int.reduceEq, Int.reduceNe, Int.reduceLT, Int.reduceLE, Int.reduceNeg, Int.reduceAdd, Int.reduceSub, Int.reduceMul, Nat.reduceEqDiff, Nat.reduceAdd, Nat.reduceMul, Int.reduceToNat, ↓reduceIte]
  have r4 := r3.tx hP px t4 x4
  clear t4 x4
  obtain ⟨-, al, ao, af, ae, g1, g2, ff, fl, cc, -⟩ := id r4.2.1
  refine cv_i cc.1 ?_
  refine cm_set (u := u + 1) (v := v) r4.2.1 hf ht (Or.inr (by omega)) (by omega) (by rw [if_neg (by omega)]) (fun h5 m5 x5 => ?_)
  simp only [kI_some, kL_some, kR_some, kV_none, ne_eq, not_true_eq_false, not_false_eq_true, true_implies, false_implies, implies_true, true_and, and_true, ab_z01, or_true, true_or, reduceCtorEq, Option.some.injEq, Int.reduceEq, Int.reduceNe, Int.reduceLT, Int.reduceLE, Int.reduceNeg, Int.reduceAdd, Int.reduceSub, Int.reduceMul, Nat.reduceEqDiff, Nat.reduceAdd, Nat.reduceMul, Int.reduceToNat, ↓reduceIte]
  exact kk h5 _ _ rfl (r4.wd hP px pb m5 x5)
theorem lon_word {R T : Nat → Int} {f t : Int} {p n q r : Nat} : word (lonW R T f t p n q r) (no R) = lF T p n := by
  unfold word lF
  rw [lonW_2, Int.toNat_natCast]
  refine List.map_congr_left (fun i hi => ?_)
  exact lonW_w (List.mem_range.mp hi)
theorem lon_wend {R T : Nat → Int} {f t : Int} {p n q r : Nat} (hn : n ≤ 8) : wend (lonW R T f t p n q r) (no R) = lF T q r := by
  unfold wend lF
  rw [lonW_3, Int.toNat_natCast]
  refine List.map_congr_left (fun i hi => ?_)
  exact lonW_e hn (List.mem_range.mp hi)
set_option maxRecDepth 100000 in
set_option maxHeartbeats 4000000 in
theorem cc_readLoan {d : Nat} {h0 h : AbH} {K : Option AbV → AbH → Prop} {P : Nat → Prop} {ax ab : Nat} {T : Nat → Int} {L c s a : Nat} {W : Nat → Int} (r : RD P h0 h ax ab T L c s a W) (hT : txV T L) (hP : ∀ q, P q → ¬ ab_new h0 q) (px : P ax) (pb : P ab) (kF : ∀ h' s', (if W 1 = 12 then (none, s) else psTwo T L (psLoan2 T L W) (nx T L s)) = (none, s') → RD P h0 h' ax ab T L c s' a W → K (some (vI 0)) h') (kk : ∀ h' W' s', (if W 1 = 12 then (none, s) else psTwo T L (psLoan2 T L W) (nx T L s)) = (some W', s') → RD P h0 h' ax ab T L c s' a W' → K (some (vI 1)) h') : Vm (d + 4) m_X5_readLoan [vR (some ax), vR (some a)] h K := by
  have hw := r.2.1.1
  obtain ⟨n1, n2⟩ := hw.now
  refine Vm.intro rfl (Nat.le_of_ble_eq_true rfl) (fun _ => B_X5_readLoan_0 ?_)
  have wo : ∀ {h s}, RD P h0 h ax ab T L c s a W → ∃ al ao af ae g1 g2 ff fl, C5 h a al ao af ae g1 g2 ff fl (W 0) (W 1) := fun r => by
    obtain ⟨-, al, ao, af, ae, g1, g2, ff, fl, c, ct, -⟩ := r.2.1
    exact ⟨al, ao, af, ae, g1, g2, ff, fl, c⟩
  obtain ⟨al, ao, af, ae, g1, g2, ff, fl, cx⟩ := wo r
  refine gI_i cx.1 rfl ⟨fun q12 => ?_, fun q12 => ?_⟩
  rotate_left
  · exact kF h s (by rw [if_pos (by omega)]) r
  rw [if_neg (show ¬ W 1 = 12 by omega)] at kF kk
  clear cx
  refine cv_i r.1.1.1 (cc_next r.1 hT (fun h1 t1 x1 => ?_))
  simp only [kI_some, kL_some, kR_some, kV_none, ne_eq, not_true_eq_false, not_false_eq_true, true_implies, false_implies, implies_true, true_and, and_true, ab_z01, or_true, true_or, reduceCtorEq, Option.some.injEq, Int.reduceEq, Int.reduceNe, Int.reduceLT, Int.reduceLE, Int.reduceNeg, Int.reduceAdd, Int.reduceSub, Int.reduceMul, Nat.reduceEqDiff, Nat.reduceAdd, Nat.reduceMul, Int.reduceToNat, ↓reduceIte]
  have r1 := r.tx hP px t1 x1
  clear t1 x1
  refine cv_i r1.1.1.1 (cc_readPair r1.1 hT (fun h2 s2 e2 t2 x2 => ?_) (fun h2 f t s2 hf ht hft e2 t2 x2 => ?_)) <;> simp only [kI_some, kL_some, kR_some, kV_none, ne_eq, not_true_eq_false, not_false_eq_true, true_implies, false_implies, implies_true, true_and, and_true, ab_z01, or_true, true_or, reduceCtorEq, Option.some.injEq, Int.reduceEq, Int.reduceNe, Int.reduceLT, Int.reduceLE, Int.reduceNeg, Int.reduceAdd, Int.reduceSub, Int.reduceMul, Nat.reduceEqDiff, Nat.reduceAdd, Nat.reduceMul, Int.reduceToNat, ↓reduceIte]
  · exact kF h2 s2 (e2 _) (r1.tx hP px t2 x2)
  have r2 := r1.tx hP px t2 x2
  clear t2 x2
  rw [e2] at kF kk
  have hf1 := hf.1
  have ht1 := ht.1
  have hf2 := hf.2
  have ht2 := ht.2
  refine ⟨fun _ => ?_, fun z => absurd (fun y => by omega) z⟩
  refine cv_i r2.1.1.1 (cc_form (m := 8) r2.1 hT (by decide) (fun qa => ?_) (fun qa => ?_)) <;> simp only [kI_some, kL_some, kR_some, kV_none, ne_eq, not_true_eq_false, not_false_eq_true, true_implies, false_implies, implies_true, true_and, and_true, ab_z01, or_true, true_or, reduceCtorEq, Option.some.injEq, Int.reduceEq, Int.reduceNe, Int.reduceLT, Int.reduceLE, Int.reduceNeg, Int.reduceAdd, Int.reduceSub, Int.reduceMul, Nat.reduceEqDiff, Nat.reduceAdd, Nat.reduceMul, Int.reduceToNat, ↓reduceIte]
  rotate_left
  · refine kF h2 _ ?_ r2
    unfold psLoan2
    rw [if_neg qa]
  have e3 : psLoan2 T L W f t s2 = psLoan3 T L W f t s2 (nx T L s2) := by unfold psLoan2; rw [if_pos qa]
  rw [e3] at kF kk
  have hs2 := r2.1.2
  have hE2 := tkE_le (T := T) hs2
  obtain ⟨n, hn⟩ : ∃ n, n = tkE T L s2 - s2 := ⟨_, rfl⟩
  have hk2 := kd_1.mpr qa.2.1
  have hin : ∀ i, i < n → 97 ≤ T (s2 + i) ∧ T (s2 + i) ≤ 122 := fun i hi => kd_1.mp (by rw [tkE_in (L := L) (s := s2) (by omega) (by omega)]; exact hk2)
  rw [← hn]
  try refine ⟨fun _ => ?_, fun z => absurd (fun y => by omega) z⟩
  refine cv_i r2.1.1.1 (cc_next r2.1 hT (fun h3 t3 x3 => ?_))
  simp only [kI_some, kL_some, kR_some, kV_none, ne_eq, not_true_eq_false, not_false_eq_true, true_implies, false_implies, implies_true, true_and, and_true, ab_z01, or_true, true_or, reduceCtorEq, Option.some.injEq, Int.reduceEq, Int.reduceNe, Int.reduceLT, Int.reduceLE, Int.reduceNeg, Int.reduceAdd, Int.reduceSub, Int.reduceMul, Nat.reduceEqDiff, Nat.reduceAdd, Nat.reduceMul, Int.reduceToNat, ↓reduceIte]
  have r3 := r2.tx hP px t3 x3
  clear t3 x3
  obtain ⟨s3, hs3⟩ : ∃ s3, s3 = nx T L s2 := ⟨_, rfl⟩
  rw [← hs3] at kF kk r3
  -- the loan is made
  have make : ∀ h4 m, RD P h0 h4 ax ab T L c (nx T L s3) a W → m ≤ 10 → (∀ i, i < m → 97 ≤ T (s3 + i) ∧ T (s3 + i) ≤ 122) → psLoan3 T L W f t s2 s3 = (some (lonW W T f t s2 n s3 m), nx T L s3) → ∀ q13 : Nat, ab_new h4 q13 → ∀ h14 : AbH, h14 = hsO h4 q13 (2, [vI 0, vI 0, vL 0, vL 0]) → Vm (d + 3) m_X3_init [vR (some q13), vI ((f * 4 + t) / 4), vI ((f * 4 + t) % 4), vL (enc (lF T s2 n) : Int), vL (enc (lF T s3 m) : Int)] h14 (kV (fun h17 => wpCV h17 (some a) 7 (fun b19 => Vm (d + 3) m_X8_addLoan [vR (some b19), vR (some q13)] h17 (kV (fun h18 => K (some (vI 1)) h18))))) := by
    intro h4 m r4 hm hin2 e4 b nb hb ehb
    subst ehb
    rw [show (f * 4 + t) / 4 = f by omega, show (f * 4 + t) % 4 = t by omega]
    refine cr_loanInit (by rw [hO_O, if_pos rfl]) rfl (fun h10 o10 f10 _ _ _ => ?_)
    simp only [kI_some, kL_some, kR_some, kV_none, ne_eq, not_true_eq_false, not_false_eq_true, true_implies, false_implies, implies_true, true_and, and_true, ab_z01, or_true, true_or, reduceCtorEq, Option.some.injEq, Int.reduceEq, Int.reduceNe, Int.reduceLT, Int.reduceLE, Int.reduceNeg, Int.reduceAdd, Int.reduceSub, Int.reduceMul, Nat.reduceEqDiff, Nat.reduceAdd, Nat.reduceMul, Int.reduceToNat, ↓reduceIte]
    have y10 : ∀ Q, Xt Q h4 h10 := fun Q => f10 Q h4 (Xt.rf.nO nb) nb
    have r10 : RD P h0 h10 ax ab T L c (nx T L s3) a W := ⟨r4.1.mv (y10 (fun _ => False)) id id, r4.2.1.mv hP (y10 P), r4.2.2.tr (y10 (A1 ax))⟩
    have nb0 := r4.2.2.new nb
    obtain ⟨al, ao, af, ae, g1, g2, ff, fl, cx⟩ := wo r10
    refine cv_i cx.1 ?_
    obtain ⟨w1, w2, w3⟩ := wV_lon (p := s2) (q := s3) hw (by omega) hf ht hft (show 1 ≤ n ∧ n ≤ 8 by omega) hm hin hin2
    refine cm_addLoan r10.2.1 (by omega) w1 w2 w3 (fun j hj hj1 => ?_) ?_ (fun k hk => loF_eq (hw.2.2.2.2 k hk) (fun j hj => lonW_lo hk hj)) ?_ (fun zz => hP _ zz nb0) (fun h11 m11 x11 => ?_)
    · rw [lonW_app, if_neg hj1, if_neg (by omega), if_neg (by omega), if_neg (by omega), if_neg (by omega), if_neg (by omega), if_neg (by omega)]
    · rw [lonW_app, if_pos rfl]
    · unfold loF
      rw [lonW_0, lonW_1, lon_word, lon_wend (by omega)]
      exact o10
    · simp only [kI_some, kL_some, kR_some, kV_none, ne_eq, not_true_eq_false, not_false_eq_true, true_implies, false_implies, implies_true, true_and, and_true, ab_z01, or_true, true_or, reduceCtorEq, Option.some.injEq, Int.reduceEq, Int.reduceNe, Int.reduceLT, Int.reduceLE, Int.reduceNeg, Int.reduceAdd, Int.reduceSub, Int.reduceMul, Nat.reduceEqDiff, Nat.reduceAdd, Nat.reduceMul, Int.reduceToNat, ↓reduceIte]
      exact kk h11 _ _ e4 (r10.wd hP px pb m11 x11)
  refine cv_i r3.1.1.1 (cc_isSign r3.1 hT (by decide) (fun q3 => ?_) (fun q3 => ?_)) <;> simp only [kI_some, kL_some, kR_some, kV_none, ne_eq, not_true_eq_false, not_false_eq_true, true_implies, false_implies, implies_true, true_and, and_true, ab_z01, or_true, true_or, reduceCtorEq, Option.some.injEq, Int.reduceEq, Int.reduceNe, Int.reduceLT, Int.reduceLE, Int.reduceNeg, Int.reduceAdd, Int.reduceSub, Int.reduceMul, Nat.reduceEqDiff, Nat.reduceAdd, Nat.reduceMul, Int.reduceToNat, ↓reduceIte]
  · refine cv_i r3.1.1.1 (cc_next r3.1 hT (fun h4 t4 x4 => ?_))
    simp only [kI_some, kL_some, kR_some, kV_none, ne_eq, not_true_eq_false, not_false_eq_true, true_implies, false_implies, implies_true, true_and, and_true, ab_z01, or_true, true_or, reduceCtorEq, Option.some.injEq, Int.reduceEq, Int.reduceNe, Int.reduceLT, Int.reduceLE, Int.reduceNeg, Int.reduceAdd, Int.reduceSub, Int.reduceMul, Nat.reduceEqDiff, Nat.reduceAdd, Nat.reduceMul, Int.reduceToNat, ↓reduceIte]
    have r4 := r3.tx hP px t4 x4
    intro b nb hb ehb
    refine ⟨by omega, by omega, ?_⟩
    exact make h4 0 r4 (by decide) (fun i hi => absurd hi (by omega)) (by unfold psLoan3; rw [if_pos q3, hn]) b nb hb ehb
  · refine cv_i r3.1.1.1 (cc_form (m := 10) r3.1 hT (by decide) (fun qb => ?_) (fun qb => ?_)) <;> simp only [kI_some, kL_some, kR_some, kV_none, ne_eq, not_true_eq_false, not_false_eq_true, true_implies, false_implies, implies_true, true_and, and_true, ab_z01, or_true, true_or, reduceCtorEq, Option.some.injEq, Int.reduceEq, Int.reduceNe, Int.reduceLT, Int.reduceLE, Int.reduceNeg, Int.reduceAdd, Int.reduceSub, Int.reduceMul, Nat.reduceEqDiff, Nat.reduceAdd, Nat.reduceMul, Int.reduceToNat, ↓reduceIte]
    rotate_left
    · refine kF h3 _ ?_ r3
      unfold psLoan3
      rw [if_neg q3, if_neg qb]
    try refine ⟨fun _ => ?_, fun z => absurd (fun y => by omega) z⟩
    refine cv_i r3.1.1.1 (cc_next r3.1 hT (fun h4 t4 x4 => ?_))
    simp only [kI_some, kL_some, kR_some, kV_none, ne_eq, not_true_eq_false, not_false_eq_true, true_implies, false_implies, implies_true, true_and, and_true, ab_z01, or_true, true_or, reduceCtorEq, Option.some.injEq, Int.reduceEq, Int.reduceNe, Int.reduceLT, Int.reduceLE, Int.reduceNeg, Int.reduceAdd, Int.reduceSub, Int.reduceMul, Nat.reduceEqDiff, Nat.reduceAdd, Nat.reduceMul, Int.reduceToNat, ↓reduceIte]
    have r4 := r3.tx hP px t4 x4
    intro b nb hb ehb
    refine ⟨by omega, by omega, ?_⟩
    have hk3 := kd_1.mpr qb.2.1
    exact make h4 (tkE T L s3 - s3) r4 (by omega) (fun i hi => kd_1.mp (by rw [tkE_in (L := L) (s := s3) (by omega) (by omega)]; exact hk3)) (by unfold psLoan3; rw [if_neg q3, if_pos qb, hn]) b nb hb ehb
set_option maxRecDepth 100000 in
set_option maxHeartbeats 4000000 in
theorem cc_readClause {d : Nat} {h0 h : AbH} {K : Option AbV → AbH → Prop} {P : Nat → Prop} {ax ab : Nat} {T : Nat → Int} {L c s a : Nat} {W : Nat → Int} (r : RD P h0 h ax ab T L c s a W) (hT : txV T L) (hP : ∀ q, P q → ¬ ab_new h0 q) (px : P ax) (pb : P ab) (hB : ∀ j, j < 4 → ∃ b, hpB h0 b j) (kF : ∀ h' s', psC T L W s = (none, s') → RD P h0 h' ax ab T L c s' a W → K (some (vI 0)) h') (kk : ∀ h' W' s', psC T L W s = (some W', s') → RD P h0 h' ax ab T L c s' a W' → K (some (vI 1)) h') : Vm (d + 6) m_X5_readClause [vR (some ax), vR (some a)] h K := by
  have hs := r.1.2
  have hB' : ∀ j, j < 4 → ∃ b, hpB h b j := by rw [r.2.2.2.2.2.1]; exact hB
  have z01 : ab_z01 0 ∧ ab_z01 1 := ⟨Or.inl rfl, Or.inr rfl⟩
  refine Vm.intro rfl (Nat.le_of_ble_eq_true rfl) (fun _ => B_X5_readClause_0 ?_)
  intro a1 ha1
  refine cv_i r.1.1.1 (cc_isWord r.1 hT ha1 hB' (by decide) (fun q1 => ?_) (fun q1 => ?_)) <;> simp only [kI_some, kL_some, kR_some, kV_none, ne_eq, not_true_eq_false, not_false_eq_true, true_implies, false_implies, implies_true, true_and, and_true, ab_z01, or_true, true_or, reduceCtorEq, Option.some.injEq, Int.reduceEq, Int.reduceNe, Int.reduceLT, Int.reduceLE, Int.reduceNeg, Int.reduceAdd, Int.reduceSub, Int.reduceMul, Nat.reduceEqDiff, Nat.reduceAdd, Nat.reduceMul, Int.reduceToNat, ↓reduceIte]
  · have eN : wdN T L s = 1 := wdN_at (x := 1) (by decide) ((wd_isW (j := 0) hs (by decide)).mpr q1)
    have e : psC T L W s = if W 0 = 16 then (none, s) else psLaw T L W (nx T L s) := by
      unfold psC
      rw [eN, if_neg (by decide), if_pos rfl]
    rw [e] at kF kk
    refine cv_i r.1.1.1 (cc_readLaw r hT hP px pb (fun h' s' e r' => ?_) (fun h' W' s' e r' => ?_)) <;> simp only [kI_some, kL_some, kR_some, kV_none, ne_eq, not_true_eq_false, not_false_eq_true, true_implies, false_implies, implies_true, true_and, and_true, ab_z01, or_true, true_or, reduceCtorEq, Option.some.injEq, Int.reduceEq, Int.reduceNe, Int.reduceLT, Int.reduceLE, Int.reduceNeg, Int.reduceAdd, Int.reduceSub, Int.reduceMul, Nat.reduceEqDiff, Nat.reduceAdd, Nat.reduceMul, Int.reduceToNat, ↓reduceIte]
    · exact kF h' s' e r'
    · exact kk h' W' s' e r'
  intro a2 ha2
  refine cv_i r.1.1.1 (cc_isWord r.1 hT ha2 hB' (by decide) (fun q2 => ?_) (fun q2 => ?_)) <;> simp only [kI_some, kL_some, kR_some, kV_none, ne_eq, not_true_eq_false, not_false_eq_true, true_implies, false_implies, implies_true, true_and, and_true, ab_z01, or_true, true_or, reduceCtorEq, Option.some.injEq, Int.reduceEq, Int.reduceNe, Int.reduceLT, Int.reduceLE, Int.reduceNeg, Int.reduceAdd, Int.reduceSub, Int.reduceMul, Nat.reduceEqDiff, Nat.reduceAdd, Nat.reduceMul, Int.reduceToNat, ↓reduceIte]
  · have eN : wdN T L s = 2 := wdN_at (x := 2) (by decide) ((wd_isW (j := 1) hs (by decide)).mpr q2)
    have e : psC T L W s = psTwo T L (psMeet2 T L W) (nx T L s) := by
      unfold psC
      rw [eN, if_neg (by decide), if_neg (by decide), if_pos rfl]
    rw [e] at kF kk
    refine cv_i r.1.1.1 (cc_readMeeting r hT hP px pb (fun h' s' e r' => ?_) (fun h' W' s' e r' => ?_)) <;> simp only [kI_some, kL_some, kR_some, kV_none, ne_eq, not_true_eq_false, not_false_eq_true, true_implies, false_implies, implies_true, true_and, and_true, ab_z01, or_true, true_or, reduceCtorEq, Option.some.injEq, Int.reduceEq, Int.reduceNe, Int.reduceLT, Int.reduceLE, Int.reduceNeg, Int.reduceAdd, Int.reduceSub, Int.reduceMul, Nat.reduceEqDiff, Nat.reduceAdd, Nat.reduceMul, Int.reduceToNat, ↓reduceIte]
    · exact kF h' s' e r'
    · exact kk h' W' s' e r'
  intro a3 ha3
  refine cv_i r.1.1.1 (cc_isWord r.1 hT ha3 hB' (by decide) (fun q3 => ?_) (fun q3 => ?_)) <;> simp only [kI_some, kL_some, kR_some, kV_none, ne_eq, not_true_eq_false, not_false_eq_true, true_implies, false_implies, implies_true, true_and, and_true, ab_z01, or_true, true_or, reduceCtorEq, Option.some.injEq, Int.reduceEq, Int.reduceNe, Int.reduceLT, Int.reduceLE, Int.reduceNeg, Int.reduceAdd, Int.reduceSub, Int.reduceMul, Nat.reduceEqDiff, Nat.reduceAdd, Nat.reduceMul, Int.reduceToNat, ↓reduceIte]
  · have eN : wdN T L s = 3 := wdN_at (x := 3) (by decide) ((wd_isW (j := 2) hs (by decide)).mpr q3)
    have e : psC T L W s = if W 1 = 12 then (none, s) else psTwo T L (psLoan2 T L W) (nx T L s) := by
      unfold psC
      rw [eN, if_neg (by decide), if_neg (by decide), if_neg (by decide), if_pos rfl]
    rw [e] at kF kk
    refine cv_i r.1.1.1 (cc_readLoan r hT hP px pb (fun h' s' e r' => ?_) (fun h' W' s' e r' => ?_)) <;> simp only [kI_some, kL_some, kR_some, kV_none, ne_eq, not_true_eq_false, not_false_eq_true, true_implies, false_implies, implies_true, true_and, and_true, ab_z01, or_true, true_or, reduceCtorEq, Option.some.injEq, Int.reduceEq, Int.reduceNe, Int.reduceLT, Int.reduceLE, Int.reduceNeg, Int.reduceAdd, Int.reduceSub, Int.reduceMul, Nat.reduceEqDiff, Nat.reduceAdd, Nat.reduceMul, Int.reduceToNat, ↓reduceIte]
    · exact kF h' s' e r'
    · exact kk h' W' s' e r'
  intro a4 ha4
  refine cv_i r.1.1.1 (cc_isWord r.1 hT ha4 hB' (by decide) (fun q4 => ?_) (fun q4 => ?_)) <;> simp only [kI_some, kL_some, kR_some, kV_none, ne_eq, not_true_eq_false, not_false_eq_true, true_implies, false_implies, implies_true, true_and, and_true, ab_z01, or_true, true_or, reduceCtorEq, Option.some.injEq, Int.reduceEq, Int.reduceNe, Int.reduceLT, Int.reduceLE, Int.reduceNeg, Int.reduceAdd, Int.reduceSub, Int.reduceMul, Nat.reduceEqDiff, Nat.reduceAdd, Nat.reduceMul, Int.reduceToNat, ↓reduceIte]
  · have eN : wdN T L s = 0 := wdN_at (x := 0) (by decide) ((wd_isW (j := 3) hs (by decide)).mpr q4)
    have e : psC T L W s = (some (allW W), nx T L s) := by
      unfold psC
      rw [eN, if_pos rfl]
    rw [e] at kF kk
    obtain ⟨-, al, ao, af, ae, g1, g2, ff, fl, cc, -⟩ := id r.2.1
    refine cv_i cc.1 (cm_clear r.2.1 (fun h1 m1 x1 => ?_))
    simp only [kI_some, kL_some, kR_some, kV_none, ne_eq, not_true_eq_false, not_false_eq_true, true_implies, false_implies, implies_true, true_and, and_true, ab_z01, or_true, true_or, reduceCtorEq, Option.some.injEq, Int.reduceEq, Int.reduceNe, Int.reduceLT, Int.reduceLE, Int.reduceNeg, Int.reduceAdd, Int.reduceSub, Int.reduceMul, Nat.reduceEqDiff, Nat.reduceAdd, Nat.reduceMul, Int.reduceToNat, ↓reduceIte]
    have r1 := r.wd hP px pb m1 x1
    refine cv_i r1.1.1.1 (cc_next r1.1 hT (fun h2 t2 x2 => ?_))
    simp only [kI_some, kL_some, kR_some, kV_none, ne_eq, not_true_eq_false, not_false_eq_true, true_implies, false_implies, implies_true, true_and, and_true, ab_z01, or_true, true_or, reduceCtorEq, Option.some.injEq, Int.reduceEq, Int.reduceNe, Int.reduceLT, Int.reduceLE, Int.reduceNeg, Int.reduceAdd, Int.reduceSub, Int.reduceMul, Nat.reduceEqDiff, Nat.reduceAdd, Nat.reduceMul, Int.reduceToNat, ↓reduceIte]
    exact kk h2 _ _ rfl (r1.tx hP px t2 x2)
  · refine kF h s ?_ r
    have eN : wdN T L s = -1 := wdN_no (fun y hy z => by
      match y, hy, z with
      | 0, _, z => exact q4 ((wd_isW (j := 3) hs (by decide)).mp z)
      | 1, _, z => exact q1 ((wd_isW (j := 0) hs (by decide)).mp z)
      | 2, _, z => exact q2 ((wd_isW (j := 1) hs (by decide)).mp z)
      | 3, _, z => exact q3 ((wd_isW (j := 2) hs (by decide)).mp z))
    unfold psC
    rw [eN, if_neg (by decide), if_neg (by decide), if_neg (by decide), if_neg (by decide)]
theorem psR_s {T : Nat → Int} {L n : Nat} {W : Nat → Int} {s c : Nat} : psR T L (n + 1) W s c = match psC T L W s with
    | (none, s') => (none, s', c)
    | (some W', s') => if L ≤ s' then (some W', s', c) else if n = 0 ∨ ¬ T s' = 59 then (none, s', c) else psR T L n W' (nx T L s') (c + 1) := rfl
set_option maxRecDepth 100000 in
set_option maxHeartbeats 4000000 in
theorem cc_read {d : Nat} {h0 h : AbH} {K : Option AbV → AbH → Prop} {P : Nat → Prop} {ax ab : Nat} {T : Nat → Int} {L c s0 e0 k0 a : Nat} {W : Nat → Int} (t : TX h ax ab T L c s0 e0 k0) (m : MW P h0 h a W) (X : Xt (A1 ax) h0 h) (hT : txV T L) (hP : ∀ q, P q → ¬ ab_new h0 q) (px : P ax) (pb : P ab) (hB : ∀ j, j < 4 → ∃ b, hpB h0 b j) (kF : ∀ h' s' c', psT T L W = (none, s', c') → ∀ W', RD P h0 h' ax ab T L c' s' a W' → K (some (vI (s' : Int))) h') (kk : ∀ h' W' s' c', psT T L W = (some W', s', c') → RD P h0 h' ax ab T L c' s' a W' → K (some (vI (-1))) h') : Vm (d + 7) m_X5_read [vR (some ax), vR (some a)] h K := by
  have xs : ∀ {h1 : AbH} {c : Nat × List AbV}, Xt (A1 ax) h1 (hsO h1 ax c) := xt_O (Or.inl rfl)
  have hPx : ∀ q, A1 ax q → P q := fun q e => by rw [show q = ax from e]; exact px
  refine Vm.intro rfl (Nat.le_of_ble_eq_true rfl) (fun _ => B_X5_read_0 ?_)
  refine p_i t.1 (by show 4 < 6; decide) ?_
  have t1 : TX (hsO h ax (4, xF ab L c s0 0 k0)) ax ab T L c s0 0 k0 := tx_set t.2
  refine cv_i t1.1 (cc_advance t1 hT (Nat.zero_le _) (fun h2 t2 x2 => ?_))
  simp only [kI_some, kL_some, kR_some, kV_none, ne_eq, not_true_eq_false, not_false_eq_true, true_implies, false_implies, implies_true, true_and, and_true, ab_z01, or_true, true_or, reduceCtorEq, Option.some.injEq, Int.reduceEq, Int.reduceNe, Int.reduceLT, Int.reduceLE, Int.reduceNeg, Int.reduceAdd, Int.reduceSub, Int.reduceMul, Nat.reduceEqDiff, Nat.reduceAdd, Nat.reduceMul, Int.reduceToNat, ↓reduceIte]
  have x2' : Xt P h h2 := (xs.tr x2).mono hPx
  have r2 : RD P h0 h2 ax ab T L c (skp T L 0) a W := ⟨t2, m.mv hP x2', X.tr (xs.tr x2)⟩
  -- n clauses left, the next one is the c-th
  have loop : ∀ n c bc bs c1 h2 W1 s, n + c = 25 → 1 ≤ c → n ≤ bc → 6 * n ≤ bs → RD P h0 h2 ax ab T L c1 s a W1 → (1 ≤ n) → psT T L W = psR T L n W1 s c → Vx (d + 7) m_X5_read bc bs 11 [some (vR (some ax)), some (vR (some a)), some (vI (c : Int))] [] h2 K := by
    intro n
    induction n with
    | zero => intro c bc bs c1 h2 W1 s h1 h3 h4 h5 r hn he; omega
    | succ n ih =>
      intro c bc bs c1 h2 W1 s h1 h3 h4 h5 r hn he
      refine B_X5_read_11 ⟨fun z => absurd z (by omega), fun _ => ?_⟩
      refine p_i r.1.1.1 (by show 2 < 6; decide) ?_
      refine ⟨by omega, by omega, ?_⟩
      have t3 : TK (hsO h2 ax (4, xF ab L c s (tkE T L s) (tkK T L s))) ax ab T L c s := ⟨tx_set r.1.1.2, r.1.2⟩
      have r3 := r.tx hP px t3 xs
      refine cv_i t3.1.1 (cc_readClause r3 hT hP px pb hB (fun h4 s4 e4 r4 => ?_) (fun h4 W4 s4 e4 r4 => ?_)) <;> simp only [kI_some, kL_some, kR_some, kV_none, ne_eq, not_true_eq_false, not_false_eq_true, true_implies, false_implies, implies_true, true_and, and_true, ab_z01, or_true, true_or, reduceCtorEq, Option.some.injEq, Int.reduceEq, Int.reduceNe, Int.reduceLT, Int.reduceLE, Int.reduceNeg, Int.reduceAdd, Int.reduceSub, Int.reduceMul, Nat.reduceEqDiff, Nat.reduceAdd, Nat.reduceMul, Int.reduceToNat, ↓reduceIte]
      · refine gI_i r4.1.1.1 rfl ?_
        refine kF h4 s4 c ?_ W1 r4
        rw [he]
        unfold psR
        rw [e4]
      · refine gI_i r4.1.1.1 rfl (gI_i r4.1.1.1 rfl ⟨fun q => ?_, fun q => ?_⟩)
        · have hs4 : ¬ L ≤ s4 := by omega
          have st : psT T L W = if n = 0 ∨ ¬ T s4 = 59 then (none, s4, c) else psR T L n W4 (nx T L s4) (c + 1) := by
            rw [he, psR_s, e4]
            show (if L ≤ s4 then _ else _) = _
            rw [if_neg hs4]
          refine ⟨fun q24 => ?_, fun q24 => ?_⟩
          · refine gI_i r4.1.1.1 rfl (kF h4 s4 c ?_ W4 r4)
            rw [st, if_pos (Or.inl (by omega))]
          · refine cv_i r4.1.1.1 (cc_isSign r4.1 hT (by decide) (fun q5 => ?_) (fun q5 => ?_)) <;> simp only [kI_some, kL_some, kR_some, kV_none, ne_eq, not_true_eq_false, not_false_eq_true, true_implies, false_implies, implies_true, true_and, and_true, ab_z01, or_true, true_or, reduceCtorEq, Option.some.injEq, Int.reduceEq, Int.reduceNe, Int.reduceLT, Int.reduceLE, Int.reduceNeg, Int.reduceAdd, Int.reduceSub, Int.reduceMul, Nat.reduceEqDiff, Nat.reduceAdd, Nat.reduceMul, Int.reduceToNat, ↓reduceIte]
            · refine cv_i r4.1.1.1 (cc_next r4.1 hT (fun h5' t5 x5 => ?_))
              simp only [kI_some, kL_some, kR_some, kV_none, ne_eq, not_true_eq_false, not_false_eq_true, true_implies, false_implies, implies_true, true_and, and_true, ab_z01, or_true, true_or, reduceCtorEq, Option.some.injEq, Int.reduceEq, Int.reduceNe, Int.reduceLT, Int.reduceLE, Int.reduceNeg, Int.reduceAdd, Int.reduceSub, Int.reduceMul, Nat.reduceEqDiff, Nat.reduceAdd, Nat.reduceMul, Int.reduceToNat, ↓reduceIte]
              refine ⟨i3 (by omega) (by omega), ?_⟩
              refine ih (c + 1) (bc - 1) (bs - 6) c h5' W4 _ (by omega) (by omega) (by omega) (by omega) (r4.tx hP px t5 x5) (by omega) ?_
              rw [st, if_neg]
              rintro (z | z)
              · omega
              · exact z q5.2
            · refine gI_i r4.1.1.1 rfl (kF h4 s4 c ?_ W4 r4)
              rw [st, if_pos (Or.inr (fun z => q5 ⟨by omega, z⟩))]
        · refine kk h4 W4 s4 c ?_ r4
          rw [he]
          unfold psR
          rw [e4]
          show (if L ≤ s4 then _ else _) = _
          rw [if_pos (by omega)]
  exact loop 24 1 24 144 c h2 W (skp T L 0) (by decide) (by decide) (by decide) (by decide) r2 (by decide) rfl
