/-! the acts of the class -/
theorem CS.old {A : Nat → Nat} {M : Nat → Prop} {h h' : AbH} {w : Nat → Int} {u : Nat} {pr : Nat → Nat → Int} {kv : Nat → Option (Nat → Int)} {T : Nat → Int} {L : Nat} (c : CS A M h w u pr kv T L) (x : Xt (ab_new h) h h') : CS A M h' w u pr kv T L := c.mv (x.wk (P := fun _ => False)) (fun _ z => absurd z id) (fun _ _ z => z)
theorem CS.wV {A : Nat → Nat} {M : Nat → Prop} {h : AbH} {w : Nat → Int} {u : Nat} {pr : Nat → Nat → Int} {kv : Nat → Option (Nat → Int)} {T : Nat → Int} {L : Nat} (c : CS A M h w u pr kv T L) : wV w := by
  obtain ⟨nw, o1, cw, hdg⟩ := c.2.1
  exact cw.1
set_option maxRecDepth 100000 in
set_option maxHeartbeats 4000000 in
theorem cp_law {d : Nat} {h : AbH} {K : Option AbV → AbH → Prop} {A : Nat → Nat} {M : Nat → Prop} {w : Nat → Int} {u : Nat} {pr : Nat → Nat → Int} {kv : Nat → Option (Nat → Int)} {T : Nat → Int} {L : Nat} (c : CS A M h w u pr kv T L) {t dd x y e z : Int} (kE : ∀ r, lawE w t dd x y e z = some r → K (some (vI r)) h) (kk : lawE w t dd x y e z = none → ∀ h1, CS A M h1 (insW w (nl w) (posL w t dd (nl w)) (lfs t dd x y e z)) (kpU u) (prA pr u w) kv T L → Xt (QA A) h h1 → K (some (vI (posL w t dd (nl w) : Int))) h1) : Vm (d + 4) m_X9_law [vR (some (A 0)), vI t, vI dd, vI x, vI y, vI e, vI z] h K := by
  obtain ⟨nw, o1, cw, hdg⟩ := c.2.1
  obtain ⟨hw, al, ao, af, ae, g1, g2, ff, fl, cx, -⟩ := id cw
  obtain ⟨n1, n2⟩ := hw.nlw
  unfold lawE at kE kk
  have out : (0 ≤ t ∧ t ≤ 3) → ¬ (1 ≤ dd ∧ dd ≤ 99 ∧ 0 ≤ x ∧ x ≤ 25 ∧ -1 ≤ y ∧ y ≤ 25 ∧ 0 ≤ e ∧ e ≤ 2 ∧ (e ≤ 0 ∨ (0 ≤ z ∧ z ≤ 25))) → K (some (vI (-3))) h := fun q1 q2 => kE (-3) (by rw [if_neg (fun z => z q1), if_pos q2])
  have F70 : (0 ≤ t ∧ t ≤ 3) → (1 ≤ dd ∧ dd ≤ 99 ∧ 0 ≤ x ∧ x ≤ 25 ∧ -1 ≤ y ∧ y ≤ 25 ∧ 0 ≤ e ∧ e ≤ 2 ∧ (e ≤ 0 ∨ (0 ≤ z ∧ z ≤ 25))) → Vx (d + 4) m_X9_law 6 72 70 [some (vR (some (A 0))), some (vI t), some (vI dd), some (vI x), some (vI y), some (vI e), some (vI z), none, none] [] h K := by
    intro q1 q2
    rw [if_neg (fun z => z q1), if_neg (fun z => z q2)] at kE kk
    refine B_X9_law_70 ⟨fun q => kE (-4) (by rw [if_pos (Or.inl q)]), fun q => ?_⟩
    refine gR_i o1 rfl (cv_i cx.1 (cc_hasLaw hw cx ?_))
    simp only [kI_some, kL_some, kR_some, kV_none, ne_eq, not_true_eq_false, not_false_eq_true, true_implies, false_implies, implies_true, true_and, and_true, ab_z01, or_true, true_or, reduceCtorEq, Option.some.injEq, Int.reduceEq, Int.reduceNe, Int.reduceLT, Int.reduceLE, Int.reduceNeg, Int.reduceAdd, Int.reduceSub, Int.reduceMul, Nat.reduceEqDiff, Nat.reduceAdd, Nat.reduceMul, Int.reduceToNat, ↓reduceIte]
    refine ⟨fun qh => ?_, fun qh => ?_⟩
    · have qh : ¬ hasL w t dd (nl w) = true := fun zz => by rw [b2i_t zz] at qh; exact absurd qh (by decide)
      rw [if_neg (show ¬ (x = y ∨ hasL w t dd (nl w) = true) from fun zz => by rcases zz with zz | zz; exact q zz; exact qh zz)] at kE kk
      refine gR_i o1 rfl (gI_i cx.1 rfl ⟨fun q16 => ?_, fun q16 => kE (-5) (by rw [if_pos (by omega)])⟩)
      rw [if_neg (by omega)] at kk
      refine gR_i o1 rfl ⟨by decide, by decide, cv_i cx.1 (cm_copy cw (fun h1 a' m1 x1 => ?_))⟩
      simp only [kI_some, kL_some, kR_some, kV_none, ne_eq, not_true_eq_false, not_false_eq_true, true_implies, false_implies, implies_true, true_and, and_true, ab_z01, or_true, true_or, reduceCtorEq, Option.some.injEq, Int.reduceEq, Int.reduceNe, Int.reduceLT, Int.reduceLE, Int.reduceNeg, Int.reduceAdd, Int.reduceSub, Int.reduceMul, Nat.reduceEqDiff, Nat.reduceAdd, Nat.reduceMul, Int.reduceToNat, ↓reduceIte]
      refine ⟨by decide, by decide, fun b nb hb ehb => ?_⟩
      subst ehb
      refine cr_lawInit (by rw [hO_O, if_pos rfl]) rfl (fun h2 o2 f2 _ _ _ => ?_)
      simp only [kI_some, kL_some, kR_some, kV_none, ne_eq, not_true_eq_false, not_false_eq_true, true_implies, false_implies, implies_true, true_and, and_true, ab_z01, or_true, true_or, reduceCtorEq, Option.some.injEq, Int.reduceEq, Int.reduceNe, Int.reduceLT, Int.reduceLE, Int.reduceNeg, Int.reduceAdd, Int.reduceSub, Int.reduceMul, Nat.reduceEqDiff, Nat.reduceAdd, Nat.reduceMul, Int.reduceToNat, ↓reduceIte]
      have y2 : ∀ Q, Xt Q h1 h2 := fun Q => f2 Q h1 (Xt.rf.nO nb) nb
      have hP := c.1.2.2.1
      have m2 : MW (PQ A M) h h2 a' w := m1.mv hP (y2 _)
      have x2 : Xt (ab_new h) h h2 := x1.tr (y2 _)
      have nb0 := x1.new nb
      obtain ⟨-, al', ao', af', ae', g1', g2', ff', fl', c5, -⟩ := id m2
      refine cv_i c5.1 (cm_addLaw m2 (by omega) ?_ qh o2 (fun zz => hP _ zz nb0) (fun h3 m3 x3 => ?_))
      · refine ⟨⟨by omega, by omega⟩, by omega, by omega, by omega, q, by omega, fun zz => by rw [if_pos zz], fun zz => by rw [if_neg zz]; omega⟩
      simp only [kI_some, kL_some, kR_some, kV_none, ne_eq, not_true_eq_false, not_false_eq_true, true_implies, false_implies, implies_true, true_and, and_true, ab_z01, or_true, true_or, reduceCtorEq, Option.some.injEq, Int.reduceEq, Int.reduceNe, Int.reduceLT, Int.reduceLE, Int.reduceNeg, Int.reduceAdd, Int.reduceSub, Int.reduceMul, Nat.reduceEqDiff, Nat.reduceAdd, Nat.reduceMul, Int.reduceToNat, ↓reduceIte]
      have x3' := x2.tr x3
      have c3 := c.old x3'
      obtain ⟨nw', o3, -⟩ := id c3.2.1
      refine cv_i o3 (cp_act c3 (m3.cw hP) ((gd_ins (by omega) (posL_le _ _ _ _)).2 hdg) (fun h4 c4 x4 _ _ => ?_))
      simp only [kI_some, kL_some, kR_some, kV_none, ne_eq, not_true_eq_false, not_false_eq_true, true_implies, false_implies, implies_true, true_and, and_true, ab_z01, or_true, true_or, reduceCtorEq, Option.some.injEq, Int.reduceEq, Int.reduceNe, Int.reduceLT, Int.reduceLE, Int.reduceNeg, Int.reduceAdd, Int.reduceSub, Int.reduceMul, Nat.reduceEqDiff, Nat.reduceAdd, Nat.reduceMul, Int.reduceToNat, ↓reduceIte]
      exact kk rfl h4 c4 (x3'.wk.tr x4)
    · have qh : hasL w t dd (nl w) = true := Classical.byContradiction (fun zz => qh (b2i_f zz))
      exact kE (-4) (by rw [if_pos (Or.inr qh)])
  refine Vm.intro rfl (Nat.le_of_ble_eq_true rfl) (fun _ => B_X9_law_0 ?_)
  refine cc_isTongue (fun qt => ?_) (fun qt => ?_) <;> simp only [kI_some, kL_some, kR_some, kV_none, ne_eq, not_true_eq_false, not_false_eq_true, true_implies, false_implies, implies_true, true_and, and_true, ab_z01, or_true, true_or, reduceCtorEq, Option.some.injEq, Int.reduceEq, Int.reduceNe, Int.reduceLT, Int.reduceLE, Int.reduceNeg, Int.reduceAdd, Int.reduceSub, Int.reduceMul, Nat.reduceEqDiff, Nat.reduceAdd, Nat.reduceMul, Int.reduceToNat, ↓reduceIte]
  · have q1 : 0 ≤ t ∧ t ≤ 3 := ⟨qt.1, by have := qt.2; omega⟩
    refine cc_within (fun qd => ?_) (fun qd => ?_) <;> simp only [kI_some, kL_some, kR_some, kV_none, ne_eq, not_true_eq_false, not_false_eq_true, true_implies, false_implies, implies_true, true_and, and_true, ab_z01, or_true, true_or, reduceCtorEq, Option.some.injEq, Int.reduceEq, Int.reduceNe, Int.reduceLT, Int.reduceLE, Int.reduceNeg, Int.reduceAdd, Int.reduceSub, Int.reduceMul, Nat.reduceEqDiff, Nat.reduceAdd, Nat.reduceMul, Int.reduceToNat, ↓reduceIte]
    rotate_left
    · exact out q1 (by omega)
    refine cc_isSound (fun qx => ?_) (fun qx => ?_) <;> simp only [kI_some, kL_some, kR_some, kV_none, ne_eq, not_true_eq_false, not_false_eq_true, true_implies, false_implies, implies_true, true_and, and_true, ab_z01, or_true, true_or, reduceCtorEq, Option.some.injEq, Int.reduceEq, Int.reduceNe, Int.reduceLT, Int.reduceLE, Int.reduceNeg, Int.reduceAdd, Int.reduceSub, Int.reduceMul, Nat.reduceEqDiff, Nat.reduceAdd, Nat.reduceMul, Int.reduceToNat, ↓reduceIte]
    rotate_left
    · exact out q1 (by omega)
    refine ⟨fun qy => ?_, fun qy => ?_⟩
    · refine cc_within (fun qe => ?_) (fun qe => ?_) <;> simp only [kI_some, kL_some, kR_some, kV_none, ne_eq, not_true_eq_false, not_false_eq_true, true_implies, false_implies, implies_true, true_and, and_true, ab_z01, or_true, true_or, reduceCtorEq, Option.some.injEq, Int.reduceEq, Int.reduceNe, Int.reduceLT, Int.reduceLE, Int.reduceNeg, Int.reduceAdd, Int.reduceSub, Int.reduceMul, Nat.reduceEqDiff, Nat.reduceAdd, Nat.reduceMul, Int.reduceToNat, ↓reduceIte]
      rotate_left
      · exact out q1 (by omega)
      refine ⟨fun q0 => F70 q1 (by omega), fun q0 => ?_⟩
      refine cc_isSound (fun qz => ?_) (fun qz => ?_) <;> simp only [kI_some, kL_some, kR_some, kV_none, ne_eq, not_true_eq_false, not_false_eq_true, true_implies, false_implies, implies_true, true_and, and_true, ab_z01, or_true, true_or, reduceCtorEq, Option.some.injEq, Int.reduceEq, Int.reduceNe, Int.reduceLT, Int.reduceLE, Int.reduceNeg, Int.reduceAdd, Int.reduceSub, Int.reduceMul, Nat.reduceEqDiff, Nat.reduceAdd, Nat.reduceMul, Int.reduceToNat, ↓reduceIte]
      · exact F70 q1 (by omega)
      · exact out q1 (by omega)
    · refine cc_isSound (fun qy2 => ?_) (fun qy2 => ?_) <;> simp only [kI_some, kL_some, kR_some, kV_none, ne_eq, not_true_eq_false, not_false_eq_true, true_implies, false_implies, implies_true, true_and, and_true, ab_z01, or_true, true_or, reduceCtorEq, Option.some.injEq, Int.reduceEq, Int.reduceNe, Int.reduceLT, Int.reduceLE, Int.reduceNeg, Int.reduceAdd, Int.reduceSub, Int.reduceMul, Nat.reduceEqDiff, Nat.reduceAdd, Nat.reduceMul, Int.reduceToNat, ↓reduceIte]
      rotate_left
      · exact out q1 (by omega)
      refine cc_within (fun qe => ?_) (fun qe => ?_) <;> simp only [kI_some, kL_some, kR_some, kV_none, ne_eq, not_true_eq_false, not_false_eq_true, true_implies, false_implies, implies_true, true_and, and_true, ab_z01, or_true, true_or, reduceCtorEq, Option.some.injEq, Int.reduceEq, Int.reduceNe, Int.reduceLT, Int.reduceLE, Int.reduceNeg, Int.reduceAdd, Int.reduceSub, Int.reduceMul, Nat.reduceEqDiff, Nat.reduceAdd, Nat.reduceMul, Int.reduceToNat, ↓reduceIte]
      rotate_left
      · exact out q1 (by omega)
      refine ⟨fun q0 => F70 q1 (by omega), fun q0 => ?_⟩
      refine cc_isSound (fun qz => ?_) (fun qz => ?_) <;> simp only [kI_some, kL_some, kR_some, kV_none, ne_eq, not_true_eq_false, not_false_eq_true, true_implies, false_implies, implies_true, true_and, and_true, ab_z01, or_true, true_or, reduceCtorEq, Option.some.injEq, Int.reduceEq, Int.reduceNe, Int.reduceLT, Int.reduceLE, Int.reduceNeg, Int.reduceAdd, Int.reduceSub, Int.reduceMul, Nat.reduceEqDiff, Nat.reduceAdd, Nat.reduceMul, Int.reduceToNat, ↓reduceIte]
      · exact F70 q1 (by omega)
      · exact out q1 (by omega)
  · exact kE (-2) (by rw [if_pos (fun zz => qt ⟨by omega, by omega⟩)])
set_option maxRecDepth 100000 in
set_option maxHeartbeats 4000000 in
theorem cp_repeal {d : Nat} {h : AbH} {K : Option AbV → AbH → Prop} {A : Nat → Nat} {M : Nat → Prop} {w : Nat → Int} {u : Nat} {pr : Nat → Nat → Int} {kv : Nat → Option (Nat → Int)} {T : Nat → Int} {L : Nat} (c : CS A M h w u pr kv T L) {v : Int} (kE : ¬ (0 ≤ v ∧ v < w 0) → K (some (vI (-2))) h) (kk : (0 ≤ v ∧ v < w 0) → ∀ h1, CS A M h1 (delW w v.toNat) (kpU u) (prA pr u w) kv T L → Xt (QA A) h h1 → K (some (vI (w 0 - 1))) h1) : Vm (d + 4) m_X9_repeal [vR (some (A 0)), vI v] h K := by
  obtain ⟨nw, o1, cw, hdg⟩ := c.2.1
  obtain ⟨hw, al, ao, af, ae, g1, g2, ff, fl, cx, -⟩ := id cw
  obtain ⟨n1, n2⟩ := hw.nlw
  have hP := c.1.2.2.1
  refine Vm.intro rfl (Nat.le_of_ble_eq_true rfl) (fun _ => B_X9_repeal_0 ?_)
  refine gR_i o1 rfl (cv_i cx.1 (cc_lawAt hw cx (fun q hq hqn b _ hb _ => ?_) (fun z => ?_))) <;> simp only [kI_some, kL_some, kR_some, kV_none, ne_eq, not_true_eq_false, not_false_eq_true, true_implies, false_implies, implies_true, true_and, and_true, ab_z01, or_true, true_or, reduceCtorEq, Option.some.injEq, Int.reduceEq, Int.reduceNe, Int.reduceLT, Int.reduceLE, Int.reduceNeg, Int.reduceAdd, Int.reduceSub, Int.reduceMul, Nat.reduceEqDiff, Nat.reduceAdd, Nat.reduceMul, Int.reduceToNat, ↓reduceIte]
  · refine gR_i o1 rfl (cv_i cx.1 (cm_copy cw (fun h1 a' m1 x1 => ?_)))
    simp only [kI_some, kL_some, kR_some, kV_none, ne_eq, not_true_eq_false, not_false_eq_true, true_implies, false_implies, implies_true, true_and, and_true, ab_z01, or_true, true_or, reduceCtorEq, Option.some.injEq, Int.reduceEq, Int.reduceNe, Int.reduceLT, Int.reduceLE, Int.reduceNeg, Int.reduceAdd, Int.reduceSub, Int.reduceMul, Nat.reduceEqDiff, Nat.reduceAdd, Nat.reduceMul, Int.reduceToNat, ↓reduceIte]
    obtain ⟨-, al', ao', af', ae', g1', g2', ff', fl', c5, -⟩ := id m1
    rw [hq]
    refine cv_i c5.1 (cm_delLaw m1 hqn (fun h3 m3 x3 => ?_))
    simp only [kI_some, kL_some, kR_some, kV_none, ne_eq, not_true_eq_false, not_false_eq_true, true_implies, false_implies, implies_true, true_and, and_true, ab_z01, or_true, true_or, reduceCtorEq, Option.some.injEq, Int.reduceEq, Int.reduceNe, Int.reduceLT, Int.reduceLE, Int.reduceNeg, Int.reduceAdd, Int.reduceSub, Int.reduceMul, Nat.reduceEqDiff, Nat.reduceAdd, Nat.reduceMul, Int.reduceToNat, ↓reduceIte]
    have x3' := x1.tr x3
    have c3 := c.old x3'
    obtain ⟨nw', o3, -⟩ := id c3.2.1
    refine cv_i o3 (cp_act c3 (m3.cw hP) ((gd_del hw).2 hdg) (fun h4 c4 x4 o4 ca => ?_))
    simp only [kI_some, kL_some, kR_some, kV_none, ne_eq, not_true_eq_false, not_false_eq_true, true_implies, false_implies, implies_true, true_and, and_true, ab_z01, or_true, true_or, reduceCtorEq, Option.some.injEq, Int.reduceEq, Int.reduceNe, Int.reduceLT, Int.reduceLE, Int.reduceNeg, Int.reduceAdd, Int.reduceSub, Int.reduceMul, Nat.reduceEqDiff, Nat.reduceAdd, Nat.reduceMul, Int.reduceToNat, ↓reduceIte]
    obtain ⟨_, _, _, _, ob⟩ := ca.ob
    refine gR_i o4 rfl (gI_i ob rfl ?_)
    have e0 : delW w q 0 = w 0 - 1 := by rw [del_app, if_pos rfl]
    rw [e0]
    have := kk (by omega) h4 (by rw [show v.toNat = q by omega]; exact c4) (x3'.wk.tr x4)
    exact this
  · exact kE z
set_option maxRecDepth 100000 in
set_option maxHeartbeats 4000000 in
theorem cp_drop {d : Nat} {h : AbH} {K : Option AbV → AbH → Prop} {A : Nat → Nat} {M : Nat → Prop} {w : Nat → Int} {u : Nat} {pr : Nat → Nat → Int} {kv : Nat → Option (Nat → Int)} {T : Nat → Int} {L : Nat} (c : CS A M h w u pr kv T L) {v : Int} (kE : ¬ (0 ≤ v ∧ v < w 1) → K (some (vI (-2))) h) (kk : (0 ≤ v ∧ v < w 1) → ∀ h1, CS A M h1 (delO w v.toNat) (kpU u) (prA pr u w) kv T L → Xt (QA A) h h1 → K (some (vI (w 1 - 1))) h1) : Vm (d + 4) m_X9_drop [vR (some (A 0)), vI v] h K := by
  obtain ⟨nw, o1, cw, hdg⟩ := c.2.1
  obtain ⟨hw, al, ao, af, ae, g1, g2, ff, fl, cx, -⟩ := id cw
  obtain ⟨n1, n2⟩ := hw.now
  have hP := c.1.2.2.1
  refine Vm.intro rfl (Nat.le_of_ble_eq_true rfl) (fun _ => B_X9_drop_0 ?_)
  refine gR_i o1 rfl (cv_i cx.1 (cc_loanAt hw cx (fun q hq hqn b _ hb _ => ?_) (fun z => ?_))) <;> simp only [kI_some, kL_some, kR_some, kV_none, ne_eq, not_true_eq_false, not_false_eq_true, true_implies, false_implies, implies_true, true_and, and_true, ab_z01, or_true, true_or, reduceCtorEq, Option.some.injEq, Int.reduceEq, Int.reduceNe, Int.reduceLT, Int.reduceLE, Int.reduceNeg, Int.reduceAdd, Int.reduceSub, Int.reduceMul, Nat.reduceEqDiff, Nat.reduceAdd, Nat.reduceMul, Int.reduceToNat, ↓reduceIte]
  · refine gR_i o1 rfl (cv_i cx.1 (cm_copy cw (fun h1 a' m1 x1 => ?_)))
    simp only [kI_some, kL_some, kR_some, kV_none, ne_eq, not_true_eq_false, not_false_eq_true, true_implies, false_implies, implies_true, true_and, and_true, ab_z01, or_true, true_or, reduceCtorEq, Option.some.injEq, Int.reduceEq, Int.reduceNe, Int.reduceLT, Int.reduceLE, Int.reduceNeg, Int.reduceAdd, Int.reduceSub, Int.reduceMul, Nat.reduceEqDiff, Nat.reduceAdd, Nat.reduceMul, Int.reduceToNat, ↓reduceIte]
    obtain ⟨-, al', ao', af', ae', g1', g2', ff', fl', c5, -⟩ := id m1
    rw [hq]
    refine cv_i c5.1 (cm_delLoan m1 hqn (fun h3 m3 x3 => ?_))
    simp only [kI_some, kL_some, kR_some, kV_none, ne_eq, not_true_eq_false, not_false_eq_true, true_implies, false_implies, implies_true, true_and, and_true, ab_z01, or_true, true_or, reduceCtorEq, Option.some.injEq, Int.reduceEq, Int.reduceNe, Int.reduceLT, Int.reduceLE, Int.reduceNeg, Int.reduceAdd, Int.reduceSub, Int.reduceMul, Nat.reduceEqDiff, Nat.reduceAdd, Nat.reduceMul, Int.reduceToNat, ↓reduceIte]
    have x3' := x1.tr x3
    have c3 := c.old x3'
    obtain ⟨nw', o3, -⟩ := id c3.2.1
    refine cv_i o3 (cp_act c3 (m3.cw hP) ((gd_delO hw).2 hdg) (fun h4 c4 x4 o4 ca => ?_))
    simp only [kI_some, kL_some, kR_some, kV_none, ne_eq, not_true_eq_false, not_false_eq_true, true_implies, false_implies, implies_true, true_and, and_true, ab_z01, or_true, true_or, reduceCtorEq, Option.some.injEq, Int.reduceEq, Int.reduceNe, Int.reduceLT, Int.reduceLE, Int.reduceNeg, Int.reduceAdd, Int.reduceSub, Int.reduceMul, Nat.reduceEqDiff, Nat.reduceAdd, Nat.reduceMul, Int.reduceToNat, ↓reduceIte]
    obtain ⟨_, _, _, _, ob⟩ := ca.ob
    refine gR_i o4 rfl (gI_i ob rfl ?_)
    have e0 : delO w q 1 = w 1 - 1 := by rw [delO_app, if_pos rfl]
    rw [e0]
    have := kk (by omega) h4 (by rw [show v.toNat = q by omega]; exact c4) (x3'.wk.tr x4)
    exact this
  · exact kE z
set_option maxRecDepth 100000 in
set_option maxHeartbeats 4000000 in
theorem cp_meet {d : Nat} {h : AbH} {K : Option AbV → AbH → Prop} {A : Nat → Nat} {M : Nat → Prop} {w : Nat → Int} {u : Nat} {pr : Nat → Nat → Int} {kv : Nat → Option (Nat → Int)} {T : Nat → Int} {L : Nat} (c : CS A M h w u pr kv T L) {f t a b : Int} (kE : ∀ r, meetE f t a b = some r → K (some (vI r)) h) (kk : meetE f t a b = none → ∀ h1, CS A M h1 (setM w f t (a + 1) b) (kpU u) (prA pr u w) kv T L → Xt (QA A) h h1 → K (some (vI (mtN (setM w f t (a + 1) b) 16))) h1) : Vm (d + 4) m_X9_meet [vR (some (A 0)), vI f, vI t, vI a, vI b] h K := by
  obtain ⟨nw, o1, cw, hdg⟩ := c.2.1
  obtain ⟨hw, al, ao, af, ae, g1, g2, ff, fl, cx, -⟩ := id cw
  have hP := c.1.2.2.1
  unfold meetE at kE kk
  refine Vm.intro rfl (Nat.le_of_ble_eq_true rfl) (fun _ => B_X9_meet_0 ?_)
  refine cc_pairOf (fun q => ?_) (fun q => ?_) <;> simp only [kI_some, kL_some, kR_some, kV_none, ne_eq, not_true_eq_false, not_false_eq_true, true_implies, false_implies, implies_true, true_and, and_true, ab_z01, or_true, true_or, reduceCtorEq, Option.some.injEq, Int.reduceEq, Int.reduceNe, Int.reduceLT, Int.reduceLE, Int.reduceNeg, Int.reduceAdd, Int.reduceSub, Int.reduceMul, Nat.reduceEqDiff, Nat.reduceAdd, Nat.reduceMul, Int.reduceToNat, ↓reduceIte]
  rotate_left
  · exact kE (-2) (by rw [if_pos (fun z => q ⟨⟨by omega, by omega⟩, ⟨by omega, by omega⟩, z.2.2.2.2⟩)])
  obtain ⟨hf, ht, hft⟩ := q
  have f1 := hf.1
  have f2 := hf.2
  have t1 := ht.1
  have t2 := ht.2
  rw [if_neg (fun z => z ⟨by omega, by omega, by omega, by omega, hft⟩)] at kE kk
  refine ⟨fun _ => ?_, fun z => absurd (fun y => by omega) z⟩
  refine cc_isDate (fun qa => ?_) (fun qa => ?_) <;> simp only [kI_some, kL_some, kR_some, kV_none, ne_eq, not_true_eq_false, not_false_eq_true, true_implies, false_implies, implies_true, true_and, and_true, ab_z01, or_true, true_or, reduceCtorEq, Option.some.injEq, Int.reduceEq, Int.reduceNe, Int.reduceLT, Int.reduceLE, Int.reduceNeg, Int.reduceAdd, Int.reduceSub, Int.reduceMul, Nat.reduceEqDiff, Nat.reduceAdd, Nat.reduceMul, Int.reduceToNat, ↓reduceIte]
  rotate_left
  · exact kE (-3) (by rw [if_pos (by omega)])
  refine cc_within (fun qb => ?_) (fun qb => ?_) <;> simp only [kI_some, kL_some, kR_some, kV_none, ne_eq, not_true_eq_false, not_false_eq_true, true_implies, false_implies, implies_true, true_and, and_true, ab_z01, or_true, true_or, reduceCtorEq, Option.some.injEq, Int.reduceEq, Int.reduceNe, Int.reduceLT, Int.reduceLE, Int.reduceNeg, Int.reduceAdd, Int.reduceSub, Int.reduceMul, Nat.reduceEqDiff, Nat.reduceAdd, Nat.reduceMul, Int.reduceToNat, ↓reduceIte]
  rotate_left
  · exact kE (-3) (by rw [if_pos (by omega)])
  rw [if_neg (by omega)] at kk
  refine gR_i o1 rfl (cv_i cx.1 (cm_copy cw (fun h1 a' m1 x1 => ?_)))
  simp only [kI_some, kL_some, kR_some, kV_none, ne_eq, not_true_eq_false, not_false_eq_true, true_implies, false_implies, implies_true, true_and, and_true, ab_z01, or_true, true_or, reduceCtorEq, Option.some.injEq, Int.reduceEq, Int.reduceNe, Int.reduceLT, Int.reduceLE, Int.reduceNeg, Int.reduceAdd, Int.reduceSub, Int.reduceMul, Nat.reduceEqDiff, Nat.reduceAdd, Nat.reduceMul, Int.reduceToNat, ↓reduceIte]
  obtain ⟨-, al', ao', af', ae', g1', g2', ff', fl', c5, -⟩ := id m1
  refine cv_i c5.1 (cm_set (u := a + 1) (v := b) m1 hf ht (Or.inr (by omega)) (by omega) (by rw [if_neg (by omega)]) (fun h3 m3 x3 => ?_))
  simp only [kI_some, kL_some, kR_some, kV_none, ne_eq, not_true_eq_false, not_false_eq_true, true_implies, false_implies, implies_true, true_and, and_true, ab_z01, or_true, true_or, reduceCtorEq, Option.some.injEq, Int.reduceEq, Int.reduceNe, Int.reduceLT, Int.reduceLE, Int.reduceNeg, Int.reduceAdd, Int.reduceSub, Int.reduceMul, Nat.reduceEqDiff, Nat.reduceAdd, Nat.reduceMul, Int.reduceToNat, ↓reduceIte]
  have x3' := x1.tr x3
  have c3 := c.old x3'
  obtain ⟨nw', o3, -⟩ := id c3.2.1
  refine cv_i o3 (cp_act c3 (m3.cw hP) ((gd_set hf ht hft).2 hdg) (fun h4 c4 x4 o4 ca => ?_))
  simp only [kI_some, kL_some, kR_some, kV_none, ne_eq, not_true_eq_false, not_false_eq_true, true_implies, false_implies, implies_true, true_and, and_true, ab_z01, or_true, true_or, reduceCtorEq, Option.some.injEq, Int.reduceEq, Int.reduceNe, Int.reduceLT, Int.reduceLE, Int.reduceNeg, Int.reduceAdd, Int.reduceSub, Int.reduceMul, Nat.reduceEqDiff, Nat.reduceAdd, Nat.reduceMul, Int.reduceToNat, ↓reduceIte]
  obtain ⟨hw4, _, _, _, _, _, _, _, _, cx4, -⟩ := ca
  refine gR_i o4 rfl (cv_i cx4.1 (cc_meetings hw4 cx4 ?_))
  simp only [kI_some, kL_some, kR_some, kV_none, ne_eq, not_true_eq_false, not_false_eq_true, true_implies, false_implies, implies_true, true_and, and_true, ab_z01, or_true, true_or, reduceCtorEq, Option.some.injEq, Int.reduceEq, Int.reduceNe, Int.reduceLT, Int.reduceLE, Int.reduceNeg, Int.reduceAdd, Int.reduceSub, Int.reduceMul, Nat.reduceEqDiff, Nat.reduceAdd, Nat.reduceMul, Int.reduceToNat, ↓reduceIte]
  exact kk rfl h4 c4 (x3'.wk.tr x4)
set_option maxRecDepth 100000 in
set_option maxHeartbeats 4000000 in
theorem cp_part {d : Nat} {h : AbH} {K : Option AbV → AbH → Prop} {A : Nat → Nat} {M : Nat → Prop} {w : Nat → Int} {u : Nat} {pr : Nat → Nat → Int} {kv : Nat → Option (Nat → Int)} {T : Nat → Int} {L : Nat} (c : CS A M h w u pr kv T L) {f t : Int} (kE : ∀ r, partE w f t = some r → K (some (vI r)) h) (kk : partE w f t = none → ∀ h1, CS A M h1 (setM w f t 0 0) (kpU u) (prA pr u w) kv T L → Xt (QA A) h h1 → K (some (vI (mtN (setM w f t 0 0) 16))) h1) : Vm (d + 4) m_X9_part [vR (some (A 0)), vI f, vI t] h K := by
  obtain ⟨nw, o1, cw, hdg⟩ := c.2.1
  obtain ⟨hw, al, ao, af, ae, g1, g2, ff, fl, cx, -⟩ := id cw
  have hP := c.1.2.2.1
  unfold partE at kE kk
  refine Vm.intro rfl (Nat.le_of_ble_eq_true rfl) (fun _ => B_X9_part_0 ?_)
  refine cc_pairOf (fun q => ?_) (fun q => ?_) <;> simp only [kI_some, kL_some, kR_some, kV_none, ne_eq, not_true_eq_false, not_false_eq_true, true_implies, false_implies, implies_true, true_and, and_true, ab_z01, or_true, true_or, reduceCtorEq, Option.some.injEq, Int.reduceEq, Int.reduceNe, Int.reduceLT, Int.reduceLE, Int.reduceNeg, Int.reduceAdd, Int.reduceSub, Int.reduceMul, Nat.reduceEqDiff, Nat.reduceAdd, Nat.reduceMul, Int.reduceToNat, ↓reduceIte]
  rotate_left
  · refine gR_i o1 rfl (cv_i cx.1 (cc_firstOf cx ?_))
    simp only [kI_some, kL_some, kR_some, kV_none, ne_eq, not_true_eq_false, not_false_eq_true, true_implies, false_implies, implies_true, true_and, and_true, ab_z01, or_true, true_or, reduceCtorEq, Option.some.injEq, Int.reduceEq, Int.reduceNe, Int.reduceLT, Int.reduceLE, Int.reduceNeg, Int.reduceAdd, Int.reduceSub, Int.reduceMul, Nat.reduceEqDiff, Nat.reduceAdd, Nat.reduceMul, Int.reduceToNat, ↓reduceIte]
    have e1 : fO w (-1) = -1 := by unfold fO; rw [if_neg (by omega)]
    rw [e1]
    exact ⟨fun z => absurd rfl z, fun _ => kE (-2) (by rw [if_pos (fun z => q ⟨⟨by omega, by omega⟩, ⟨by omega, by omega⟩, z.2.2.2.2⟩)])⟩
  obtain ⟨hf, ht, hft⟩ := q
  have f1 := hf.1
  have f2 := hf.2
  have t1 := ht.1
  have t2 := ht.2
  rw [if_neg (fun z => z ⟨by omega, by omega, by omega, by omega, hft⟩)] at kE kk
  obtain ⟨p, hp⟩ : ∃ p, p = 4 * f.toNat + t.toNat := ⟨_, rfl⟩
  have e1 : fO w (f * 4 + t) = w (98 + 2 * p) - 1 := by unfold fO; rw [if_pos (by omega), show (f * 4 + t).toNat = p by omega]
  rw [← hp] at kE kk
  refine gR_i o1 rfl (cv_i cx.1 (cc_firstOf cx ?_))
  simp only [kI_some, kL_some, kR_some, kV_none, ne_eq, not_true_eq_false, not_false_eq_true, true_implies, false_implies, implies_true, true_and, and_true, ab_z01, or_true, true_or, reduceCtorEq, Option.some.injEq, Int.reduceEq, Int.reduceNe, Int.reduceLT, Int.reduceLE, Int.reduceNeg, Int.reduceAdd, Int.reduceSub, Int.reduceMul, Nat.reduceEqDiff, Nat.reduceAdd, Nat.reduceMul, Int.reduceToNat, ↓reduceIte]
  rw [e1]
  refine ⟨fun z => ?_, fun z => kE (-2) (by rw [if_pos (by have := Classical.byContradiction z; omega)])⟩
  rw [if_neg (by omega)] at kk
  refine gR_i o1 rfl (cv_i cx.1 (cm_copy cw (fun h1 a' m1 x1 => ?_)))
  simp only [kI_some, kL_some, kR_some, kV_none, ne_eq, not_true_eq_false, not_false_eq_true, true_implies, false_implies, implies_true, true_and, and_true, ab_z01, or_true, true_or, reduceCtorEq, Option.some.injEq, Int.reduceEq, Int.reduceNe, Int.reduceLT, Int.reduceLE, Int.reduceNeg, Int.reduceAdd, Int.reduceSub, Int.reduceMul, Nat.reduceEqDiff, Nat.reduceAdd, Nat.reduceMul, Int.reduceToNat, ↓reduceIte]
  obtain ⟨-, al', ao', af', ae', g1', g2', ff', fl', c5, -⟩ := id m1
  refine cv_i c5.1 (cm_set (u := 0) (v := 0) m1 hf ht (Or.inl ⟨rfl, rfl⟩) (by decide) (by rw [if_pos rfl]) (fun h3 m3 x3 => ?_))
  simp only [kI_some, kL_some, kR_some, kV_none, ne_eq, not_true_eq_false, not_false_eq_true, true_implies, false_implies, implies_true, true_and, and_true, ab_z01, or_true, true_or, reduceCtorEq, Option.some.injEq, Int.reduceEq, Int.reduceNe, Int.reduceLT, Int.reduceLE, Int.reduceNeg, Int.reduceAdd, Int.reduceSub, Int.reduceMul, Nat.reduceEqDiff, Nat.reduceAdd, Nat.reduceMul, Int.reduceToNat, ↓reduceIte]
  have x3' := x1.tr x3
  have c3 := c.old x3'
  obtain ⟨nw', o3, -⟩ := id c3.2.1
  refine cv_i o3 (cp_act c3 (m3.cw hP) ((gd_set hf ht hft).2 hdg) (fun h4 c4 x4 o4 ca => ?_))
  simp only [kI_some, kL_some, kR_some, kV_none, ne_eq, not_true_eq_false, not_false_eq_true, true_implies, false_implies, implies_true, true_and, and_true, ab_z01, or_true, true_or, reduceCtorEq, Option.some.injEq, Int.reduceEq, Int.reduceNe, Int.reduceLT, Int.reduceLE, Int.reduceNeg, Int.reduceAdd, Int.reduceSub, Int.reduceMul, Nat.reduceEqDiff, Nat.reduceAdd, Nat.reduceMul, Int.reduceToNat, ↓reduceIte]
  obtain ⟨hw4, _, _, _, _, _, _, _, _, cx4, -⟩ := ca
  refine gR_i o4 rfl (cv_i cx4.1 (cc_meetings hw4 cx4 ?_))
  simp only [kI_some, kL_some, kR_some, kV_none, ne_eq, not_true_eq_false, not_false_eq_true, true_implies, false_implies, implies_true, true_and, and_true, ab_z01, or_true, true_or, reduceCtorEq, Option.some.injEq, Int.reduceEq, Int.reduceNe, Int.reduceLT, Int.reduceLE, Int.reduceNeg, Int.reduceAdd, Int.reduceSub, Int.reduceMul, Nat.reduceEqDiff, Nat.reduceAdd, Nat.reduceMul, Int.reduceToNat, ↓reduceIte]
  exact kk rfl h4 c4 (x3'.wk.tr x4)
set_option maxRecDepth 100000 in
set_option maxHeartbeats 4000000 in
theorem cp_lend {d : Nat} {h : AbH} {K : Option AbV → AbH → Prop} {A : Nat → Nat} {M : Nat → Prop} {w : Nat → Int} {u : Nat} {pr : Nat → Nat → Int} {kv : Nat → Option (Nat → Int)} {T : Nat → Int} {L : Nat} (c : CS A M h w u pr kv T L) {v f t dd : Int} (kE : ∀ r, lendE w v f t dd = some r → K (some (vI r)) h) (kk : lendE w v f t dd = none → ∀ h1, CS A M h1 (lndW w v.toNat f t (borr w f t dd (word w v.toNat))) (kpU u) (prA pr u w) kv T L → Xt (QA A) h h1 → K (some (vI (w 1 + 1))) h1) : Vm (d + 5) m_X9_lend [vR (some (A 0)), vI v, vI f, vI t, vI dd] h K := by
  obtain ⟨nw, o1, cw, hdg⟩ := c.2.1
  obtain ⟨hw, al, ao, af, ae, g1, g2, ff, fl, cx, -⟩ := id cw
  obtain ⟨n1, n2⟩ := hw.now
  have hP := c.1.2.2.1
  unfold lendE at kE kk
  refine Vm.intro rfl (Nat.le_of_ble_eq_true rfl) (fun _ => B_X9_lend_0 ?_)
  refine gR_i o1 rfl (cv_i cx.1 (cc_loanAt hw cx (fun q hq hqn b _ hb hbP => ?_) (fun z => ?_))) <;> simp only [kI_some, kL_some, kR_some, kV_none, ne_eq, not_true_eq_false, not_false_eq_true, true_implies, false_implies, implies_true, true_and, and_true, ab_z01, or_true, true_or, reduceCtorEq, Option.some.injEq, Int.reduceEq, Int.reduceNe, Int.reduceLT, Int.reduceLE, Int.reduceNeg, Int.reduceAdd, Int.reduceSub, Int.reduceMul, Nat.reduceEqDiff, Nat.reduceAdd, Nat.reduceMul, Int.reduceToNat, ↓reduceIte]
  rotate_left
  · exact kE (-2) (by rw [if_pos z])
  have hlv := hw.2.2.2.2 q hqn
  rw [if_neg (by omega)] at kE kk
  refine cc_pairOf (fun qp => ?_) (fun qp => ?_) <;> simp only [kI_some, kL_some, kR_some, kV_none, ne_eq, not_true_eq_false, not_false_eq_true, true_implies, false_implies, implies_true, true_and, and_true, ab_z01, or_true, true_or, reduceCtorEq, Option.some.injEq, Int.reduceEq, Int.reduceNe, Int.reduceLT, Int.reduceLE, Int.reduceNeg, Int.reduceAdd, Int.reduceSub, Int.reduceMul, Nat.reduceEqDiff, Nat.reduceAdd, Nat.reduceMul, Int.reduceToNat, ↓reduceIte]
  rotate_left
  · exact kE (-2) (by rw [if_pos (fun z => qp ⟨⟨by omega, by omega⟩, ⟨by omega, by omega⟩, z.2.2.2.2⟩)])
  obtain ⟨hf, ht, hft⟩ := qp
  have f1 := hf.1
  have f2 := hf.2
  have t1 := ht.1
  have t2 := ht.2
  rw [if_neg (fun z => z ⟨by omega, by omega, by omega, by omega, hft⟩)] at kE kk
  refine ⟨fun _ => ?_, fun z => absurd (fun y => by omega) z⟩
  refine cc_isDate (fun qa => ?_) (fun qa => ?_) <;> simp only [kI_some, kL_some, kR_some, kV_none, ne_eq, not_true_eq_false, not_false_eq_true, true_implies, false_implies, implies_true, true_and, and_true, ab_z01, or_true, true_or, reduceCtorEq, Option.some.injEq, Int.reduceEq, Int.reduceNe, Int.reduceLT, Int.reduceLE, Int.reduceNeg, Int.reduceAdd, Int.reduceSub, Int.reduceMul, Nat.reduceEqDiff, Nat.reduceAdd, Nat.reduceMul, Int.reduceToNat, ↓reduceIte]
  rotate_left
  · exact kE (-3) (by rw [if_pos (by omega)])
  rw [if_neg (by omega)] at kE kk
  refine gR_i o1 rfl (gI_i cx.1 rfl ⟨fun q12 => ?_, fun q12 => kE (-5) (by rw [if_pos (by omega)])⟩)
  rw [if_neg (by omega), show v.toNat = q by omega] at kk
  refine gR_i o1 rfl (cv_i cx.1 (cm_copy cw (fun h1 a' m1 x1 => ?_)))
  simp only [kI_some, kL_some, kR_some, kV_none, ne_eq, not_true_eq_false, not_false_eq_true, true_implies, false_implies, implies_true, true_and, and_true, ab_z01, or_true, true_or, reduceCtorEq, Option.some.injEq, Int.reduceEq, Int.reduceNe, Int.reduceLT, Int.reduceLE, Int.reduceNeg, Int.reduceAdd, Int.reduceSub, Int.reduceMul, Nat.reduceEqDiff, Nat.reduceAdd, Nat.reduceMul, Int.reduceToNat, ↓reduceIte]
  intro bb nb hb2 ehb
  subst ehb
  have X2 : Xt (ab_new h) h (hsO h1 bb (2, [vI 0, vI 0, vL 0, vL 0])) := x1.nO (x1.new nb)
  have b2 : hpO (hsO h1 bb (2, [vI 0, vI 0, vL 0, vL 0])) b = some (2, loF w q) := X2.wk.O hbP hb
  have o2 : hpO (hsO h1 bb (2, [vI 0, vI 0, vL 0, vL 0])) (A 0) = some (8, oF A nw) := (X2.wk (P := fun _ => False)).O id o1
  obtain ⟨-, _, _, _, _, _, _, _, _, cx2, -⟩ := cw.mv X2.wk
  refine gL_i b2 rfl (gR_i o2 rfl (gL_i b2 rfl (cv_i cx2.1 (cc_borrowed hw cx2 (word_V hlv) ?_))))
  simp only [kI_some, kL_some, kR_some, kV_none, ne_eq, not_true_eq_false, not_false_eq_true, true_implies, false_implies, implies_true, true_and, and_true, ab_z01, or_true, true_or, reduceCtorEq, Option.some.injEq, Int.reduceEq, Int.reduceNe, Int.reduceLT, Int.reduceLE, Int.reduceNeg, Int.reduceAdd, Int.reduceSub, Int.reduceMul, Nat.reduceEqDiff, Nat.reduceAdd, Nat.reduceMul, Int.reduceToNat, ↓reduceIte]
  have bV := borr_V (f := f) (t := t) (d := dd) hw.L (word_V hlv)
  refine cr_loanInit (by rw [hO_O, if_pos rfl]) rfl (fun h2 o3 f2 _ _ _ => ?_)
  simp only [kI_some, kL_some, kR_some, kV_none, ne_eq, not_true_eq_false, not_false_eq_true, true_implies, false_implies, implies_true, true_and, and_true, ab_z01, or_true, true_or, reduceCtorEq, Option.some.injEq, Int.reduceEq, Int.reduceNe, Int.reduceLT, Int.reduceLE, Int.reduceNeg, Int.reduceAdd, Int.reduceSub, Int.reduceMul, Nat.reduceEqDiff, Nat.reduceAdd, Nat.reduceMul, Int.reduceToNat, ↓reduceIte]
  have y2 : ∀ Q, Xt Q h1 h2 := fun Q => f2 Q h1 (Xt.rf.nO nb) nb
  have m2 : MW (PQ A M) h h2 a' w := m1.mv hP (y2 _)
  have x2 : Xt (ab_new h) h h2 := x1.tr (y2 _)
  have nb0 := x1.new nb
  obtain ⟨-, al', ao', af', ae', g1', g2', ff', fl', c5, -⟩ := id m2
  obtain ⟨w1, w2, w3⟩ := wV_lnd hw hqn (by omega) hf ht hft bV
  refine cv_i c5.1 (cm_addLoan m2 (by omega) w1 w2 w3 (fun j hj hj1 => ?_) ?_ (fun k hk => loF_eq (hw.2.2.2.2 k hk) (fun j hj => lndW_lo hk hj)) ?_ (fun zz => hP _ zz nb0) (fun h3 m3 x3 => ?_))
  · rw [lndW_app, if_neg hj1, if_neg (by omega), if_neg (by omega), if_neg (by omega), if_neg (by omega), if_neg (by omega)]
  · rw [lndW_app, if_pos rfl]
  · unfold loF
    rw [lndW_0, lndW_1, lnd_word hlv, lnd_wend]
    exact o3
  simp only [kI_some, kL_some, kR_some, kV_none, ne_eq, not_true_eq_false, not_false_eq_true, true_implies, false_implies, implies_true, true_and, and_true, ab_z01, or_true, true_or, reduceCtorEq, Option.some.injEq, Int.reduceEq, Int.reduceNe, Int.reduceLT, Int.reduceLE, Int.reduceNeg, Int.reduceAdd, Int.reduceSub, Int.reduceMul, Nat.reduceEqDiff, Nat.reduceAdd, Nat.reduceMul, Int.reduceToNat, ↓reduceIte]
  have x3' := x2.tr x3
  have c3 := c.old x3'
  obtain ⟨nw', o4, -⟩ := id c3.2.1
  refine cv_i o4 (cp_act c3 (m3.cw hP) ((gd_lnd (by omega) bV.1).2 hdg) (fun h4 c4 x4 o5 ca => ?_))
  simp only [kI_some, kL_some, kR_some, kV_none, ne_eq, not_true_eq_false, not_false_eq_true, true_implies, false_implies, implies_true, true_and, and_true, ab_z01, or_true, true_or, reduceCtorEq, Option.some.injEq, Int.reduceEq, Int.reduceNe, Int.reduceLT, Int.reduceLE, Int.reduceNeg, Int.reduceAdd, Int.reduceSub, Int.reduceMul, Nat.reduceEqDiff, Nat.reduceAdd, Nat.reduceMul, Int.reduceToNat, ↓reduceIte]
  obtain ⟨_, _, _, _, ob⟩ := ca.ob
  refine gR_i o5 rfl (gI_i ob rfl ?_)
  have e1 : lndW w q f t (borr w f t dd (word w q)) 1 = w 1 + 1 := by rw [lndW_app, if_pos rfl]
  rw [e1]
  exact kk rfl h4 c4 (x3'.wk.tr x4)
