theorem C5.mv {F : Nat → Prop} {h h' : AbH} {a al ao af ae : Nat} {g1 g2 : Nat → Option Nat} {ff fl : Nat → Int} {n m : Int} (c : C5 h a al ao af ae g1 g2 ff fl n m) (x : Xt F h h') (h1 : ¬ F a) (h2 : ¬ F al) (h3 : ¬ F ao) (h4 : ¬ F af) (h5 : ¬ F ae) : C5 h' a al ao af ae g1 g2 ff fl n m := ⟨x.O h1 c.1, x.R h2 c.2.1, x.R h3 c.2.2.1, x.I h4 c.2.2.2.1, x.I h5 c.2.2.2.2⟩
theorem wV_0 : wV (fun _ => 0) := ⟨⟨⟨by decide, by decide⟩, ⟨by decide, by decide⟩⟩, fun k hk => absurd hk (Nat.not_lt_zero k), fun k hk => absurd hk (Nat.not_lt_zero _), fun _ _ => Or.inl ⟨rfl, rfl⟩, fun k hk => absurd hk (Nat.not_lt_zero k)⟩
set_option maxRecDepth 100000 in
set_option maxHeartbeats 4000000 in
theorem cp_init {d : Nat} {h : AbH} {K : Option AbV → AbH → Prop} {o : Nat} (ho : hpO h o = some (8, [vR none, vR none, vR none, vR none, vR none, vR none, vR none])) (hB : ∀ j, j < 4 → ∃ b, hpB h b j) (kk : ∀ h' A, A 0 = o → (∀ pr, CS A NF h' (fun _ => 0) 0 pr (fun _ => none) (fun _ => 0) 0) → Xt (A1 o) h h' → (∀ i, 1 ≤ i → i < 19 → ab_new h (A i)) → K none h') : Vm (d + 2) m_X9_init [vR (some o)] h K := by
  have y : ∀ {h1 : AbH} {c : Nat × List AbV}, Xt (A1 o) h1 (hsO h1 o c) := xt_O (Or.inl rfl)
  have mo : ∀ {a b : AbH}, Xt NF a b → Xt (A1 o) a b := fun x => x.mono (fun _ z => absurd z id)
  have neo : ∀ {h1 : AbH} {q : Nat} {c}, hpO h1 o = some c → ab_new h1 q → ¬ A1 o q := fun e n z => exO e (by rw [← show _ = o from z]; exact n)
  refine Vm.intro rfl (Nat.le_of_ble_eq_true rfl) (fun _ => B_X9_init_0 ?_)
  -- the world
  intro q1 n1 h2 e2
  subst e2
  refine cm_init (h0 := h) (P := NF) sO_s n1 (Xt.rf.nO n1) (fun h5 al ao af ae ff fl c5 N X5 hff => ?_)
  simp only [kI_some, kL_some, kR_some, kV_none, ne_eq, not_true_eq_false, not_false_eq_true, true_implies, false_implies, implies_true, true_and, and_true, ab_z01, or_true, true_or, reduceCtorEq, Option.some.injEq, Int.reduceEq, Int.reduceNe, Int.reduceLT, Int.reduceLE, Int.reduceNeg, Int.reduceAdd, Int.reduceSub, Int.reduceMul, Nat.reduceEqDiff, Nat.reduceAdd, Nat.reduceMul, Int.reduceToNat, ↓reduceIte]
  obtain ⟨⟨N1, N2, N3, N4, N5'⟩, Na, Nf⟩ := N
  have o5 := X5.O (show ¬ NF o from id) ho
  refine p_i o5 (by show 0 < 7; decide) ?_
  obtain ⟨H1, eH1⟩ : ∃ H1, H1 = hsO h5 o (8, [vR none, vR none, vR none, vR none, vR none, vR none, vR none].set 0 (vR (some q1))) := ⟨_, rfl⟩
  have xw : Xt (A1 o) h5 H1 := by rw [eH1]; exact y
  have o1 : hpO H1 o = some (8, [vR (some q1), vR none, vR none, vR none, vR none, vR none, vR none]) := by rw [eH1]; exact sO_s
  have X1 : Xt (A1 o) h H1 := (mo X5).tr xw
  have c51 : C5 H1 q1 al ao af ae (fun _ => none) (fun _ => none) ff fl 0 0 := c5.mv xw (neo ho N1) (neo ho N2) (neo ho N3) (neo ho N4) (neo ho N5')
  have an1 : AN 1 (fun _ => o) H1 := ⟨fun i j hi hj _ => by omega, fun i _ => exO o1⟩
  rw [← eH1]
  -- the past
  intro q7 n7 h8 e8
  subst e8
  refine ci_past an1 n7 (fun h11 aq ps an2 naq x11 => ?_)
  simp only [kI_some, kL_some, kR_some, kV_none, ne_eq, not_true_eq_false, not_false_eq_true, true_implies, false_implies, implies_true, true_and, and_true, ab_z01, or_true, true_or, reduceCtorEq, Option.some.injEq, Int.reduceEq, Int.reduceNe, Int.reduceLT, Int.reduceLE, Int.reduceNeg, Int.reduceAdd, Int.reduceSub, Int.reduceMul, Nat.reduceEqDiff, Nat.reduceAdd, Nat.reduceMul, Int.reduceToNat, ↓reduceIte]
  have o11 := x11.O (show ¬ NF o from id) o1
  refine p_i o11 (by show 1 < 7; decide) ?_
  obtain ⟨H2, eH2⟩ : ∃ H2, H2 = hsO h11 o (8, [vR (some q1), vR none, vR none, vR none, vR none, vR none, vR none].set 1 (vR (some q7))) := ⟨_, rfl⟩
  have xp : Xt (A1 o) h11 H2 := by rw [eH2]; exact y
  have o2 : hpO H2 o = some (8, [vR (some q1), vR (some q7), vR none, vR none, vR none, vR none, vR none]) := by rw [eH2]; exact sO_s
  have X2 : Xt (A1 o) H1 H2 := (mo x11).tr xp
  have an2 := an2.mv xp
  rw [← eH2]
  -- the saved states
  intro q13 n13 h14 e14
  subst e14
  have an3 := an2.add n13 (exR sR_s) (Xt.rf.nR (P := NF) (c := (7, 2, fun _ => none)) n13)
  refine p_i (show hpO (hsR H2 q13 (7, 2, fun _ => none)) o = _ from o2) (by show 2 < 7; decide) ?_
  obtain ⟨H3, eH3⟩ : ∃ H3, H3 = hsO (hsR H2 q13 (7, 2, fun _ => none)) o (8, [vR (some q1), vR (some q7), vR none, vR none, vR none, vR none, vR none].set 2 (vR (some q13))) := ⟨_, rfl⟩
  have an3 : AN 4 _ H3 := an3.mv (F := A1 o) (by rw [eH3]; exact y)
  have o3 : hpO H3 o = some (8, [vR (some q1), vR (some q7), vR (some q13), vR none, vR none, vR none, vR none]) := by rw [eH3]; exact sO_s
  have s3 : hpR H3 q13 = some (7, 2, fun _ => none) := by rw [eH3]; exact sR_s
  have X3 : Xt (A1 o) H2 H3 := by rw [eH3]; exact (Xt.rf.nR n13).tr y
  rw [← eH3]
  -- the text
  intro q18 n18 h19 e19
  subst e19
  refine ci_text an3 n18 (fun h22 tb tx an4 ntb x22 => ?_)
  simp only [kI_some, kL_some, kR_some, kV_none, ne_eq, not_true_eq_false, not_false_eq_true, true_implies, false_implies, implies_true, true_and, and_true, ab_z01, or_true, true_or, reduceCtorEq, Option.some.injEq, Int.reduceEq, Int.reduceNe, Int.reduceLT, Int.reduceLE, Int.reduceNeg, Int.reduceAdd, Int.reduceSub, Int.reduceMul, Nat.reduceEqDiff, Nat.reduceAdd, Nat.reduceMul, Int.reduceToNat, ↓reduceIte]
  have o22 := x22.O (show ¬ NF o from id) o3
  refine p_i o22 (by show 3 < 7; decide) ?_
  obtain ⟨H4, eH4⟩ : ∃ H4, H4 = hsO h22 o (8, [vR (some q1), vR (some q7), vR (some q13), vR none, vR none, vR none, vR none].set 3 (vR (some q18))) := ⟨_, rfl⟩
  have xt4 : Xt (A1 o) h22 H4 := by rw [eH4]; exact y
  have o4 : hpO H4 o = some (8, [vR (some q1), vR (some q7), vR (some q13), vR (some q18), vR none, vR none, vR none]) := by rw [eH4]; exact sO_s
  have X4 : Xt (A1 o) H3 H4 := (mo x22).tr xt4
  have an4 := an4.mv xt4
  rw [← eH4]
  -- the windows
  intro q24 n24 h25 e25
  subst e25
  refine ci_win an4 n24 (fun h28 wf wl wn an5 nwf nwl x28 => ?_)
  simp only [kI_some, kL_some, kR_some, kV_none, ne_eq, not_true_eq_false, not_false_eq_true, true_implies, false_implies, implies_true, true_and, and_true, ab_z01, or_true, true_or, reduceCtorEq, Option.some.injEq, Int.reduceEq, Int.reduceNe, Int.reduceLT, Int.reduceLE, Int.reduceNeg, Int.reduceAdd, Int.reduceSub, Int.reduceMul, Nat.reduceEqDiff, Nat.reduceAdd, Nat.reduceMul, Int.reduceToNat, ↓reduceIte]
  have o28 := x28.O (show ¬ NF o from id) o4
  refine p_i o28 (by show 4 < 7; decide) ?_
  obtain ⟨H5, eH5⟩ : ∃ H5, H5 = hsO h28 o (8, [vR (some q1), vR (some q7), vR (some q13), vR (some q18), vR none, vR none, vR none].set 4 (vR (some q24))) := ⟨_, rfl⟩
  have xt5 : Xt (A1 o) h28 H5 := by rw [eH5]; exact y
  have o5' : hpO H5 o = some (8, [vR (some q1), vR (some q7), vR (some q13), vR (some q18), vR (some q24), vR none, vR none]) := by rw [eH5]; exact sO_s
  have X5' : Xt (A1 o) H4 H5 := (mo x28).tr xt5
  have an5 := an5.mv xt5
  rw [← eH5]
  -- the layers
  intro q30 n30 h31 e31
  subst e31
  refine ci_lay an5 n30 (fun h34 yi yf yl yy ly an6 nyi nyf nyl nyy x34 => ?_)
  simp only [kI_some, kL_some, kR_some, kV_none, ne_eq, not_true_eq_false, not_false_eq_true, true_implies, false_implies, implies_true, true_and, and_true, ab_z01, or_true, true_or, reduceCtorEq, Option.some.injEq, Int.reduceEq, Int.reduceNe, Int.reduceLT, Int.reduceLE, Int.reduceNeg, Int.reduceAdd, Int.reduceSub, Int.reduceMul, Nat.reduceEqDiff, Nat.reduceAdd, Nat.reduceMul, Int.reduceToNat, ↓reduceIte]
  have o34 := x34.O (show ¬ NF o from id) o5'
  refine p_i o34 (by show 5 < 7; decide) ?_
  obtain ⟨H6, eH6⟩ : ∃ H6, H6 = hsO h34 o (8, [vR (some q1), vR (some q7), vR (some q13), vR (some q18), vR (some q24), vR none, vR none].set 5 (vR (some q30))) := ⟨_, rfl⟩
  have xt6 : Xt (A1 o) h34 H6 := by rw [eH6]; exact y
  have o6 : hpO H6 o = some (8, [vR (some q1), vR (some q7), vR (some q13), vR (some q18), vR (some q24), vR (some q30), vR none]) := by rw [eH6]; exact sO_s
  have X6 : Xt (A1 o) H5 H6 := (mo x34).tr xt6
  have an6 := an6.mv xt6
  rw [← eH6]
  -- the way
  intro q36 n36 h37 e37
  subst e37
  refine ci_way an6 n36 (fun h40 ql qb tr st wr an7 nql nqb ntr nst x40 => ?_)
  simp only [kI_some, kL_some, kR_some, kV_none, ne_eq, not_true_eq_false, not_false_eq_true, true_implies, false_implies, implies_true, true_and, and_true, ab_z01, or_true, true_or, reduceCtorEq, Option.some.injEq, Int.reduceEq, Int.reduceNe, Int.reduceLT, Int.reduceLE, Int.reduceNeg, Int.reduceAdd, Int.reduceSub, Int.reduceMul, Nat.reduceEqDiff, Nat.reduceAdd, Nat.reduceMul, Int.reduceToNat, ↓reduceIte]
  have o40 := x40.O (show ¬ NF o from id) o6
  refine p_i o40 (by show 6 < 7; decide) ?_
  obtain ⟨H7, eH7⟩ : ∃ H7, H7 = hsO h40 o (8, [vR (some q1), vR (some q7), vR (some q13), vR (some q18), vR (some q24), vR (some q30), vR none].set 6 (vR (some q36))) := ⟨_, rfl⟩
  have xt7 : Xt (A1 o) h40 H7 := by rw [eH7]; exact y
  have o7 : hpO H7 o = some (8, [vR (some q1), vR (some q7), vR (some q13), vR (some q18), vR (some q24), vR (some q30), vR (some q36)]) := by rw [eH7]; exact sO_s
  have an7 := an7.mv xt7
  rw [← eH7]
  have X7 : Xt (A1 o) H6 H7 := (mo x40).tr xt7
  have Y6 := X6.tr X7
  have Y5 := X5'.tr Y6
  have Y4 := X4.tr Y5
  have Y3 := X3.tr Y4
  have Y2 := X2.tr Y3
  have Y1 := X1.tr Y2
  -- what is new in H1
  have m2 : ∀ {q}, ab_new H2 q → ab_new H1 q := fun z => X2.new z
  have m3 : ∀ {q}, ab_new H3 q → ab_new H1 q := fun z => m2 (X3.new z)
  have m4 : ∀ {q}, ab_new H4 q → ab_new H1 q := fun z => m3 (X4.new z)
  have m5 : ∀ {q}, ab_new H5 q → ab_new H1 q := fun z => m4 (X5'.new z)
  have m6 : ∀ {q}, ab_new H6 q → ab_new H1 q := fun z => m5 (X6.new z)
  obtain ⟨A, hAn, a0, a1, a2, a3, a4, a5, a6, a7, a8, a9, a10, a11, a12, a13, a14, a15, a16, a17, a18⟩ : ∃ A, AN 19 A H7 ∧ A 0 = o ∧ A 1 = q7 ∧ A 2 = aq ∧ A 3 = q13 ∧ A 4 = q18 ∧ A 5 = tb ∧ A 6 = q24 ∧ A 7 = wf ∧ A 8 = wl ∧ A 9 = q30 ∧ A 10 = yi ∧ A 11 = yf ∧ A 12 = yl ∧ A 13 = yy ∧ A 14 = q36 ∧ A 15 = ql ∧ A 16 = qb ∧ A 17 = tr ∧ A 18 = st := ⟨_, an7, rfl, rfl, rfl, rfl, rfl, rfl, rfl, rfl, rfl, rfl, rfl, rfl, rfl, rfl, rfl, rfl, rfl, rfl, rfl⟩
  have hnew : ∀ i, 1 ≤ i → i < 19 → ab_new H1 (A i) := by
    intro i h1 h2
    match i, h1, h2 with
    | 1, _, _ => rw [a1]; exact n7
    | 2, _, _ => rw [a2]; exact naq
    | 3, _, _ => rw [a3]; exact m2 n13
    | 4, _, _ => rw [a4]; exact m3 n18
    | 5, _, _ => rw [a5]; exact m3 ntb
    | 6, _, _ => rw [a6]; exact m4 n24
    | 7, _, _ => rw [a7]; exact m4 nwf
    | 8, _, _ => rw [a8]; exact m4 nwl
    | 9, _, _ => rw [a9]; exact m5 n30
    | 10, _, _ => rw [a10]; exact m5 nyi
    | 11, _, _ => rw [a11]; exact m5 nyf
    | 12, _, _ => rw [a12]; exact m5 nyl
    | 13, _, _ => rw [a13]; exact m5 nyy
    | 14, _, _ => rw [a14]; exact m6 n36
    | 15, _, _ => rw [a15]; exact m6 nql
    | 16, _, _ => rw [a16]; exact m6 nqb
    | 17, _, _ => rw [a17]; exact m6 ntr
    | 18, _, _ => rw [a18]; exact m6 nst
    | n + 19, _, h2 => exact absurd h2 (by omega)
  have ne : ∀ {q}, ab_new H1 q → ¬ A1 o q := fun n => neo o1 n
  have npq : ∀ x, ab_new h x → ¬ ab_new H1 x → ¬ PQ A NF x := by
    rintro x hx hx1 (⟨i, hi, e⟩ | f)
    · by_cases z : i = 0
      · rw [z, a0] at e
        exact exO ho (by rw [← e]; exact hx)
      · exact hx1 (by rw [e]; exact hnew i (by omega) hi)
    · exact f
  have c57 := c51.mv Y2 (neo ho N1) (neo ho N2) (neo ho N3) (neo ho N4) (neo ho N5')
  refine kk H7 A a0 (fun pr => ⟨⟨hAn.1, fun _ _ => id, ?_, ?_⟩, ⟨q1, ?_, ⟨wV_0, al, ao, af, ae, fun _ => none, fun _ => none, ff, fl, CX_mk c57 ⟨fun k hk => ⟨fun z => absurd z (Nat.not_lt_zero k), fun _ => rfl⟩, fun k hk => ⟨fun z => absurd z (Nat.not_lt_zero k), fun _ => rfl⟩, fun p hp => ⟨(hff p hp).1, (hff p hp).2⟩⟩, npq _ N1 (exO c51.1), npq _ N2 (exR c51.2.1), npq _ N3 (exR c51.2.2.1), npq _ N4 (exI c51.2.2.2.1), npq _ N5' (exI c51.2.2.2.2)⟩, fun t _ => rfl⟩, ⟨fun _ => none, ?_, by decide, fun i hi => absurd hi (Nat.not_lt_zero i), fun i _ x hx => absurd hx (by simp)⟩, ⟨fun _ => none, ?_, fun k _ => ⟨fun v hv => absurd hv (by simp), fun _ => rfl⟩⟩, ⟨⟨by decide, fun i hi => absurd hi (Nat.not_lt_zero i)⟩, 0, 0, 0, 0, ?_⟩, ⟨0, fun _ => 0, fun _ => 0, ?_⟩, ⟨fun _ => 0, fun _ => 0, fun _ => 0, fun _ => 0, ?_⟩, ⟨-1, [], ?_⟩⟩) Y1 (fun i h1 h2 => X1.new (hnew i h1 h2))
  · rintro q (⟨i, hi, e⟩ | f)
    · rw [e]; exact hAn.2 i hi
    · exact absurd f id
  · rw [Y1.2.2.2.1]; exact hB
  · unfold oF
    rw [a0, a1, a3, a4, a6, a9, a14]
    exact o7
  · rw [a1, a2]
    exact ⟨(xp.tr Y3).O (ne n7) ps.1, (xp.tr Y3).R (ne naq) ps.2⟩
  · rw [a3]
    exact Y4.R (ne (m2 n13)) s3
  · rw [a4, a5]
    exact tx.mv (xt4.tr Y5) (ne (m3 n18)) (ne (m3 ntb))
  · rw [a6, a7, a8]
    exact wn.mv (xt5.tr Y6) (ne (m4 n24)) (ne (m4 nwf)) (ne (m4 nwl))
  · rw [a9, a10, a11, a12, a13]
    refine ly.mv (xt6.tr X7) (ne (m5 n30)) (fun q z => ?_)
    rcases z with z | z | z | z <;> rw [z]
    · exact ne (m5 nyi)
    · exact ne (m5 nyf)
    · exact ne (m5 nyl)
    · exact ne (m5 nyy)
  · rw [a14, a15, a16, a17, a18]
    refine wr.mv xt7 (fun q z => ?_)
    rcases z with z | z | z | z | z <;> rw [z]
    · exact ne (m6 n36)
    · exact ne (m6 nql)
    · exact ne (m6 nqb)
    · exact ne (m6 ntr)
    · exact ne (m6 nst)
