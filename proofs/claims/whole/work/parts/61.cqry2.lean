set_option maxRecDepth 100000 in
set_option maxHeartbeats 4000000 in
theorem cp_did {d : Nat} {h : AbH} {K : Option AbV → AbH → Prop} {A : Nat → Nat} {M : Nat → Prop} {w : Nat → Int} {u : Nat} {pr : Nat → Nat → Int} {kv : Nat → Option (Nat → Int)} {T : Nat → Int} {L : Nat} (c : CS A M h w u pr kv T L) {k r dd : Int} (kk : ∀ h1, CS A M h1 w u pr kv T L → Xt (QA A) h h1 → K (some (vI (qDid w k r dd))) h1) : Vm (d + 4) m_X9_did [vR (some (A 0)), vI k, vI r, vI dd] h K := by
  have kk := kk h c Xt.rf
  obtain ⟨nw, o1, cw, hdg⟩ := c.2.1
  obtain ⟨hw, al, ao, af, ae, g1, g2, ff, fl, cx, -⟩ := id cw
  obtain ⟨n1, n2⟩ := hw.now
  obtain ⟨m1, m2⟩ := hw.nlw
  unfold qDid at kk
  refine Vm.intro rfl (Nat.le_of_ble_eq_true rfl) (fun _ => B_X9_did_0 ?_)
  refine gR_i o1 rfl (cv_i cx.1 (cc_loanAt hw cx (fun p hp hpn b _ hb hbP => ?_) (fun z => ?_))) <;> simp only [kI_some, kL_some, kR_some, kV_none, ne_eq, not_true_eq_false, not_false_eq_true, true_implies, false_implies, implies_true, true_and, and_true, ab_z01, or_true, true_or, reduceCtorEq, Option.some.injEq, Int.reduceEq, Int.reduceNe, Int.reduceLT, Int.reduceLE, Int.reduceNeg, Int.reduceAdd, Int.reduceSub, Int.reduceMul, Nat.reduceEqDiff, Nat.reduceAdd, Nat.reduceMul, Int.reduceToNat, ↓reduceIte]
  · rw [if_neg (by omega), show k.toNat = p by omega] at kk
    have hlv := hw.2.2.2.2 p hpn
    have wV' := word_V hlv
    refine gR_i o1 rfl (cv_i cx.1 (cc_lawAt hw cx (fun q hq hqn b' _ hb' _ => ?_) (fun z => ?_))) <;> simp only [kI_some, kL_some, kR_some, kV_none, ne_eq, not_true_eq_false, not_false_eq_true, true_implies, false_implies, implies_true, true_and, and_true, ab_z01, or_true, true_or, reduceCtorEq, Option.some.injEq, Int.reduceEq, Int.reduceNe, Int.reduceLT, Int.reduceLE, Int.reduceNeg, Int.reduceAdd, Int.reduceSub, Int.reduceMul, Nat.reduceEqDiff, Nat.reduceAdd, Nat.reduceMul, Int.reduceToNat, ↓reduceIte]
    · rw [if_neg (by omega), show r.toNat = q by omega] at kk
      have hv := hw.2.1 q hqn
      refine gI_i hb' rfl (gI_i hb rfl ⟨fun y => ?_, fun y => ?_⟩)
      · rw [if_neg (fun z => z y)] at kk
        refine cc_isDate (fun yd => ?_) (fun yd => ?_) <;> simp only [kI_some, kL_some, kR_some, kV_none, ne_eq, not_true_eq_false, not_false_eq_true, true_implies, false_implies, implies_true, true_and, and_true, ab_z01, or_true, true_or, reduceCtorEq, Option.some.injEq, Int.reduceEq, Int.reduceNe, Int.reduceLT, Int.reduceLE, Int.reduceNeg, Int.reduceAdd, Int.reduceSub, Int.reduceMul, Nat.reduceEqDiff, Nat.reduceAdd, Nat.reduceMul, Int.reduceToNat, ↓reduceIte]
        · rw [if_neg (fun z => z yd)] at kk
          refine gR_i o1 rfl (gL_i hb rfl (gI_i hb rfl (cv_i cx.1 (cc_developed hw cx wV' ?_))))
          simp only [kI_some, kL_some, kR_some, kV_none, ne_eq, not_true_eq_false, not_false_eq_true, true_implies, false_implies, implies_true, true_and, and_true, ab_z01, or_true, true_or, reduceCtorEq, Option.some.injEq, Int.reduceEq, Int.reduceNe, Int.reduceLT, Int.reduceLE, Int.reduceNeg, Int.reduceAdd, Int.reduceSub, Int.reduceMul, Nat.reduceEqDiff, Nat.reduceAdd, Nat.reduceMul, Int.reduceToNat, ↓reduceIte]
          have tV := dev_V (t := lo w p 0) (d := 0) (e := dd) hw.L wV'
          refine gI_i hb' rfl ⟨fun y2 => ?_, fun y2 => ?_⟩
          · rw [if_pos y2] at kk
            have hd := hv.2.1
            refine gR_i o1 rfl (gI_i hb rfl (gI_i hb' rfl ⟨i3 (by omega) (by omega), cv_i cx.1 (cc_developed hw cx tV ?_)⟩))
            simp only [kI_some, kL_some, kR_some, kV_none, ne_eq, not_true_eq_false, not_false_eq_true, true_implies, false_implies, implies_true, true_and, and_true, ab_z01, or_true, true_or, reduceCtorEq, Option.some.injEq, Int.reduceEq, Int.reduceNe, Int.reduceLT, Int.reduceLE, Int.reduceNeg, Int.reduceAdd, Int.reduceSub, Int.reduceMul, Nat.reduceEqDiff, Nat.reduceAdd, Nat.reduceMul, Int.reduceToNat, ↓reduceIte]
            refine cv_i hb' (cc_affects hv hb' (dev_V hw.L tV) ?_)
            simp only [kI_some, kL_some, kR_some, kV_none, ne_eq, not_true_eq_false, not_false_eq_true, true_implies, false_implies, implies_true, true_and, and_true, ab_z01, or_true, true_or, reduceCtorEq, Option.some.injEq, Int.reduceEq, Int.reduceNe, Int.reduceLT, Int.reduceLE, Int.reduceNeg, Int.reduceAdd, Int.reduceSub, Int.reduceMul, Nat.reduceEqDiff, Nat.reduceAdd, Nat.reduceMul, Int.reduceToNat, ↓reduceIte]
            rw [y] at kk
            cases hh : ht w q (dev w (lo w p 1) dd (lw w q 1 - 1) (dev w (lo w p 0) 0 dd (word w p))) with
            | false =>
              rw [hh, if_neg (by decide)] at kk
              exact ⟨fun _ => kk, fun z => absurd rfl z⟩
            | true =>
              rw [hh, if_pos rfl] at kk
              exact ⟨fun z => absurd z (by decide), fun _ => kk⟩
          · rw [if_neg y2] at kk
            refine cv_i hb' (cc_affects hv hb' tV ?_)
            simp only [kI_some, kL_some, kR_some, kV_none, ne_eq, not_true_eq_false, not_false_eq_true, true_implies, false_implies, implies_true, true_and, and_true, ab_z01, or_true, true_or, reduceCtorEq, Option.some.injEq, Int.reduceEq, Int.reduceNe, Int.reduceLT, Int.reduceLE, Int.reduceNeg, Int.reduceAdd, Int.reduceSub, Int.reduceMul, Nat.reduceEqDiff, Nat.reduceAdd, Nat.reduceMul, Int.reduceToNat, ↓reduceIte]
            cases hh : ht w q (dev w (lo w p 0) 0 dd (word w p)) with
            | false =>
              rw [hh, if_neg (by decide)] at kk
              exact ⟨fun _ => kk, fun z => absurd rfl z⟩
            | true =>
              rw [hh, if_pos rfl] at kk
              exact ⟨fun z => absurd z (by decide), fun _ => kk⟩
        · rw [if_pos yd] at kk
          exact kk
      · rw [if_pos y] at kk
        exact kk
    · rw [if_pos z] at kk
      exact kk
  · rw [if_pos z] at kk
    refine gR_i o1 rfl (cv_i cx.1 (cc_lawAt hw cx (fun q hq hqn b' _ hb' _ => ?_) (fun z => ?_))) <;> simp only [kI_some, kL_some, kR_some, kV_none, ne_eq, not_true_eq_false, not_false_eq_true, true_implies, false_implies, implies_true, true_and, and_true, ab_z01, or_true, true_or, reduceCtorEq, Option.some.injEq, Int.reduceEq, Int.reduceNe, Int.reduceLT, Int.reduceLE, Int.reduceNeg, Int.reduceAdd, Int.reduceSub, Int.reduceMul, Nat.reduceEqDiff, Nat.reduceAdd, Nat.reduceMul, Int.reduceToNat, ↓reduceIte] <;> exact kk
set_option maxRecDepth 100000 in
set_option maxHeartbeats 4000000 in
theorem cp_older {d : Nat} {h : AbH} {K : Option AbV → AbH → Prop} {A : Nat → Nat} {M : Nat → Prop} {w : Nat → Int} {u : Nat} {pr : Nat → Nat → Int} {kv : Nat → Option (Nat → Int)} {T : Nat → Int} {L : Nat} (c : CS A M h w u pr kv T L) {i j : Int} (kk : ∀ h1, CS A M h1 w u pr kv T L → Xt (QA A) h h1 → K (some (vI (qOlder w i j))) h1) : Vm (d + 7) m_X9_older [vR (some (A 0)), vI i, vI j] h K := by
  obtain ⟨nw, o1, cw, hdg⟩ := c.2.1
  obtain ⟨hw, al, ao, af, ae, g1, g2, ff, fl, cx, -⟩ := id cw
  obtain ⟨n1, n2⟩ := hw.now
  obtain ⟨I, F', G', Y, ly⟩ := c.2.2.2.2.2.2.1
  unfold qOlder at kk
  refine Vm.intro rfl (Nat.le_of_ble_eq_true rfl) (fun _ => B_X9_older_0 ?_)
  refine gR_i o1 rfl (cv_i cx.1 (cc_loanAt hw cx (fun p hp hpn b _ hb hbP => ?_) (fun z => ?_))) <;> simp only [kI_some, kL_some, kR_some, kV_none, ne_eq, not_true_eq_false, not_false_eq_true, true_implies, false_implies, implies_true, true_and, and_true, ab_z01, or_true, true_or, reduceCtorEq, Option.some.injEq, Int.reduceEq, Int.reduceNe, Int.reduceLT, Int.reduceLE, Int.reduceNeg, Int.reduceAdd, Int.reduceSub, Int.reduceMul, Nat.reduceEqDiff, Nat.reduceAdd, Nat.reduceMul, Int.reduceToNat, ↓reduceIte]
  · rw [if_neg (by omega)] at kk
    refine gR_i o1 rfl (cv_i cx.1 (cc_loanAt hw cx (fun q hq hqn b' _ hb' _ => ?_) (fun z => ?_))) <;> simp only [kI_some, kL_some, kR_some, kV_none, ne_eq, not_true_eq_false, not_false_eq_true, true_implies, false_implies, implies_true, true_and, and_true, ab_z01, or_true, true_or, reduceCtorEq, Option.some.injEq, Int.reduceEq, Int.reduceNe, Int.reduceLT, Int.reduceLE, Int.reduceNeg, Int.reduceAdd, Int.reduceSub, Int.reduceMul, Nat.reduceEqDiff, Nat.reduceAdd, Nat.reduceMul, Int.reduceToNat, ↓reduceIte]
    · rw [if_neg (by omega), show i.toNat = p by omega, show j.toNat = q by omega] at kk
      refine gR_i o1 rfl (gR_i o1 rfl (gR_i o1 rfl (cv_i ly.1 (cp_yof c o1 cw (fun h1 c1 x1 lo1 => ?_)))))
      simp only [kI_some, kL_some, kR_some, kV_none, ne_eq, not_true_eq_false, not_false_eq_true, true_implies, false_implies, implies_true, true_and, and_true, ab_z01, or_true, true_or, reduceCtorEq, Option.some.injEq, Int.reduceEq, Int.reduceNe, Int.reduceLT, Int.reduceLE, Int.reduceNeg, Int.reduceAdd, Int.reduceSub, Int.reduceMul, Nat.reduceEqDiff, Nat.reduceAdd, Nat.reduceMul, Int.reduceToNat, ↓reduceIte]
      have kk := kk h1 c1 x1
      obtain ⟨_, _, _, _, ly1, _⟩ := id lo1
      rw [hp, hq]
      refine cv_i ly1.1 (cc_yisOlder hw lo1 hpn hqn ?_)
      simp only [kI_some, kL_some, kR_some, kV_none, ne_eq, not_true_eq_false, not_false_eq_true, true_implies, false_implies, implies_true, true_and, and_true, ab_z01, or_true, true_or, reduceCtorEq, Option.some.injEq, Int.reduceEq, Int.reduceNe, Int.reduceLT, Int.reduceLE, Int.reduceNeg, Int.reduceAdd, Int.reduceSub, Int.reduceMul, Nat.reduceEqDiff, Nat.reduceAdd, Nat.reduceMul, Int.reduceToNat, ↓reduceIte]
      cases hh : oldB w p q with
      | false =>
        rw [hh] at kk
        exact ⟨fun _ => kk, fun z => absurd rfl z⟩
      | true =>
        rw [hh] at kk
        exact ⟨fun z => absurd z (by decide), fun _ => kk⟩
    · rw [if_pos z] at kk
      exact kk h c Xt.rf
  · rw [if_pos z] at kk
    exact kk h c Xt.rf
set_option maxRecDepth 100000 in
set_option maxHeartbeats 4000000 in
theorem cp_road {d : Nat} {h : AbH} {K : Option AbV → AbH → Prop} {A : Nat → Nat} {M : Nat → Prop} {w : Nat → Int} {u : Nat} {pr : Nat → Nat → Int} {kv : Nat → Option (Nat → Int)} {T : Nat → Int} {L : Nat} (c : CS A M h w u pr kv T L) {k t e g j : Int} (kk : ∀ r, qRoad w k t e g j r → ∀ h1, CS A M h1 w u pr kv T L → Xt (QA A) h h1 → K (some (vI r)) h1) : Vm (d + 12) m_X9_road [vR (some (A 0)), vI k, vI t, vI e, vI g, vI j] h K := by
  obtain ⟨nw, o1, cw, hdg⟩ := c.2.1
  obtain ⟨hw, al, ao, af, ae, g1, g2, ff, fl, cx, -⟩ := id cw
  obtain ⟨n1, n2⟩ := hw.now
  obtain ⟨n0, l0, wr⟩ := c.2.2.2.2.2.2.2
  have bad : ¬ ((0 ≤ k ∧ k < w 1) ∧ (0 ≤ e ∧ e < w 1) ∧ tg t ∧ tg g) → K (some (vI (-2))) h := fun z => kk (-2) (Or.inl ⟨z, rfl⟩) h c Xt.rf
  refine Vm.intro rfl (Nat.le_of_ble_eq_true rfl) (fun _ => B_X9_road_0 ?_)
  refine gR_i o1 rfl (cv_i cx.1 (cc_loanAt hw cx (fun p hp hpn b _ hb hbP => ?_) (fun z => ?_))) <;> simp only [kI_some, kL_some, kR_some, kV_none, ne_eq, not_true_eq_false, not_false_eq_true, true_implies, false_implies, implies_true, true_and, and_true, ab_z01, or_true, true_or, reduceCtorEq, Option.some.injEq, Int.reduceEq, Int.reduceNe, Int.reduceLT, Int.reduceLE, Int.reduceNeg, Int.reduceAdd, Int.reduceSub, Int.reduceMul, Nat.reduceEqDiff, Nat.reduceAdd, Nat.reduceMul, Int.reduceToNat, ↓reduceIte]
  · refine gR_i o1 rfl (cv_i cx.1 (cc_loanAt hw cx (fun q hq hqn b' _ hb' _ => ?_) (fun z => ?_))) <;> simp only [kI_some, kL_some, kR_some, kV_none, ne_eq, not_true_eq_false, not_false_eq_true, true_implies, false_implies, implies_true, true_and, and_true, ab_z01, or_true, true_or, reduceCtorEq, Option.some.injEq, Int.reduceEq, Int.reduceNe, Int.reduceLT, Int.reduceLE, Int.reduceNeg, Int.reduceAdd, Int.reduceSub, Int.reduceMul, Nat.reduceEqDiff, Nat.reduceAdd, Nat.reduceMul, Int.reduceToNat, ↓reduceIte]
    · refine cc_isTongue (fun yt => ?_) (fun yt => ?_) <;> simp only [kI_some, kL_some, kR_some, kV_none, ne_eq, not_true_eq_false, not_false_eq_true, true_implies, false_implies, implies_true, true_and, and_true, ab_z01, or_true, true_or, reduceCtorEq, Option.some.injEq, Int.reduceEq, Int.reduceNe, Int.reduceLT, Int.reduceLE, Int.reduceNeg, Int.reduceAdd, Int.reduceSub, Int.reduceMul, Nat.reduceEqDiff, Nat.reduceAdd, Nat.reduceMul, Int.reduceToNat, ↓reduceIte]
      · refine cc_isTongue (fun yg => ?_) (fun yg => ?_) <;> simp only [kI_some, kL_some, kR_some, kV_none, ne_eq, not_true_eq_false, not_false_eq_true, true_implies, false_implies, implies_true, true_and, and_true, ab_z01, or_true, true_or, reduceCtorEq, Option.some.injEq, Int.reduceEq, Int.reduceNe, Int.reduceLT, Int.reduceLE, Int.reduceNeg, Int.reduceAdd, Int.reduceSub, Int.reduceMul, Nat.reduceEqDiff, Nat.reduceAdd, Nat.reduceMul, Int.reduceToNat, ↓reduceIte]
        · have pre : (0 ≤ k ∧ k < w 1) ∧ (0 ≤ e ∧ e < w 1) ∧ tg t ∧ tg g := ⟨by omega, by omega, yt, yg⟩
          refine ⟨fun z => ?_, fun z => kk (-3) (Or.inr ⟨pre.1, pre.2.1, yt, yg, Or.inl ⟨by omega, rfl⟩⟩) h c Xt.rf⟩
          obtain ⟨E0, g0, LW0, BZ0, T0, S0, wc1, -⟩ := id wr
          refine gR_i o1 rfl (gR_i o1 rfl (gL_i hb rfl (gL_i hb' rfl (cv_i wc1 ?_))))
          have yt1 := yt.1
          have yt2 := yt.2
          rw [show t = ((t.toNat : Nat) : Int) by omega]
          refine cc_vfind (e := q) cw hdg wr (fun q z => Or.inl (sa_qa (by decide) q (v5_sa q z))) hpn hqn (by omega) yg (fun h1 n l x1 ird wr1 => ?_)
          simp only [kI_some, kL_some, kR_some, kV_none, ne_eq, not_true_eq_false, not_false_eq_true, true_implies, false_implies, implies_true, true_and, and_true, ab_z01, or_true, true_or, reduceCtorEq, Option.some.injEq, Int.reduceEq, Int.reduceNe, Int.reduceLT, Int.reduceLE, Int.reduceNeg, Int.reduceAdd, Int.reduceSub, Int.reduceMul, Nat.reduceEqDiff, Nat.reduceAdd, Nat.reduceMul, Int.reduceToNat, ↓reduceIte]
          have x1' := x1.mono v5_sa
          have c1 : CS A M h1 w u pr kv T L := c.way x1' ⟨n, l, wr1⟩
          have o1' : hpO h1 (A 0) = some (8, oF A nw) := x1'.O (sa_not c.1.1 (by decide) (by decide) (by decide)) o1
          have xq := x1'.mono (sa_qa (A := A) (by decide))
          have ird' : isRd w k.toNat t e.toNat g n l := by
            rw [show k.toNat = p by omega, show e.toNat = q by omega, show t = ((t.toNat : Nat) : Int) by omega]
            exact ird
          obtain ⟨E1, g1', LW1, BZ1, T1, S1, wc2, -⟩ := id wr1
          refine ⟨fun z2 => ?_, fun z2 => ?_⟩
          · refine gR_i o1' rfl (cv_i wc2 (cc_vstepAt wr1 ?_ (by omega) ?_))
            · rcases ird with ⟨a1, a2, _⟩ | ⟨a1, a2, _⟩
              · exact Or.inl ⟨a1, a2⟩
              · exact Or.inr ⟨a1, a2⟩
            · simp only [kI_some, kL_some, kR_some, kV_none, ne_eq, not_true_eq_false, not_false_eq_true, true_implies, false_implies, implies_true, true_and, and_true, ab_z01, or_true, true_or, reduceCtorEq, Option.some.injEq, Int.reduceEq, Int.reduceNe, Int.reduceLT, Int.reduceLE, Int.reduceNeg, Int.reduceAdd, Int.reduceSub, Int.reduceMul, Nat.reduceEqDiff, Nat.reduceAdd, Nat.reduceMul, Int.reduceToNat, ↓reduceIte]
              refine kk _ (Or.inr ⟨pre.1, pre.2.1, yt, yg, Or.inr ⟨by omega, n, l, ird', ?_⟩⟩) h1 c1 xq
              rw [if_neg z2]
          · refine gR_i o1' rfl (gI_i wc2 rfl ?_)
            refine kk _ (Or.inr ⟨pre.1, pre.2.1, yt, yg, Or.inr ⟨by omega, n, l, ird', ?_⟩⟩) h1 c1 xq
            rw [if_pos (Classical.byContradiction z2)]
        · exact bad (fun z => yg z.2.2.2)
      · exact bad (fun z => yt z.2.2.1)
    · exact bad (fun y => z y.2.1)
  · refine gR_i o1 rfl (cv_i cx.1 (cc_loanAt hw cx (fun q hq hqn b' _ hb' _ => ?_) (fun z2 => ?_))) <;> simp only [kI_some, kL_some, kR_some, kV_none, ne_eq, not_true_eq_false, not_false_eq_true, true_implies, false_implies, implies_true, true_and, and_true, ab_z01, or_true, true_or, reduceCtorEq, Option.some.injEq, Int.reduceEq, Int.reduceNe, Int.reduceLT, Int.reduceLE, Int.reduceNeg, Int.reduceAdd, Int.reduceSub, Int.reduceMul, Nat.reduceEqDiff, Nat.reduceAdd, Nat.reduceMul, Int.reduceToNat, ↓reduceIte] <;> exact bad (fun y => z y.1)
theorem cntN_le2 {p q : Nat → Bool} : ∀ n, (∀ i, i < n → p i = q i) → cntN p n = cntN q n
  | 0, _ => rfl
  | n + 1, h => by
    unfold cntN
    rw [cntN_le2 n (fun i hi => h i (by omega)), h n (by omega)]
set_option maxRecDepth 100000 in
set_option maxHeartbeats 4000000 in
theorem cp_kinds {d : Nat} {h : AbH} {K : Option AbV → AbH → Prop} {A : Nat → Nat} {M : Nat → Prop} {w : Nat → Int} {u : Nat} {pr : Nat → Nat → Int} {kv : Nat → Option (Nat → Int)} {T : Nat → Int} {L : Nat} (c : CS A M h w u pr kv T L) {v : Int} (hv : 0 ≤ v ∧ v ≤ 2) (kk : ∀ h1, CS A M h1 w u pr kv T L → Xt (QA A) h h1 → K (some (vI (cntN (fun i => decide (kndF (fitW w i) = v)) (no w) : Int))) h1) : Vm (d + 6) m_X9_loansOfKind [vR (some (A 0)), vI v] h K := by
  have hw : wV w := by obtain ⟨nw, o1, cw, hdg⟩ := c.2.1; exact cw.1
  obtain ⟨n1, n2⟩ := hw.now
  obtain ⟨p, hp⟩ : ∃ p : Nat → Bool, p = fun i => decide (i < no w) && decide (kndF (fitW w i) = v) := ⟨_, rfl⟩
  have hcut := cntN_cut (p := p) (n := no w) 12 n2 (fun i h1 h2 z => by
    rw [hp] at z
    simp only [Bool.and_eq_true, decide_eq_true_eq] at z
    omega)
  have hlow : cntN p (no w) = cntN (fun i => decide (kndF (fitW w i) = v)) (no w) := cntN_le2 _ (fun i hi => by
    rw [hp]
    simp only [hi, decide_true, Bool.true_and])
  rw [← hlow, ← hcut] at kk
  refine Vm.intro rfl (Nat.le_of_ble_eq_true rfl) (fun _ => B_X9_loansOfKind_0 ?_)
  refine lp_up (P := fun i => ∀ h1, CS A M h1 w u pr kv T L → Xt (QA A) h h1 → Vx (d + 6) m_X9_loansOfKind 0 0 4 [some (vR (some (A 0))), some (vI v), some (vI (cntN p i : Int)), some (vI (i : Int)), none] [] h1 K) (n := 12) ?_ ?_ 0 (by omega) h c Xt.rf
  · intro h1 c1 x1
    exact B_X9_loansOfKind_4 ⟨fun _ => kk h1 c1 x1, fun z => absurd (by decide) z⟩
  · intro i hi ih h1 c1 x1
    have hle := cntN_le p i
    have hs : cntN p (i + 1) = cntN p i + (if p i = true then 1 else 0) := rfl
    rw [hs] at ih
    refine B_X9_loansOfKind_4 ⟨fun z => absurd z (by omega), fun _ => ?_⟩
    obtain ⟨nw, o1, cw, hdg⟩ := c1.2.1
    obtain ⟨-, al, ao, af, ae, g1, g2, ff, fl, cx, -⟩ := id cw
    obtain ⟨n, F, G, wn⟩ := c1.2.2.2.2.2.1
    refine gR_i o1 rfl (cv_i cx.1 (cc_loanAt hw cx (fun q hq hqn b _ hb hbP => ?_) (fun z => ?_))) <;> simp only [kI_some, kL_some, kR_some, kV_none, ne_eq, not_true_eq_false, not_false_eq_true, true_implies, false_implies, implies_true, true_and, and_true, ab_z01, or_true, true_or, reduceCtorEq, Option.some.injEq, Int.reduceEq, Int.reduceNe, Int.reduceLT, Int.reduceLE, Int.reduceNeg, Int.reduceAdd, Int.reduceSub, Int.reduceMul, Nat.reduceEqDiff, Nat.reduceAdd, Nat.reduceMul, Int.reduceToNat, ↓reduceIte]
    · have e : q = i := by omega
      rw [e] at hqn hb
      refine gR_i o1 rfl (gR_i o1 rfl (cv_i wn.1 (cp_wof c1 o1 cw hqn hb hbP (fun h2 c2 x2 wo _ => ?_))))
      simp only [kI_some, kL_some, kR_some, kV_none, ne_eq, not_true_eq_false, not_false_eq_true, true_implies, false_implies, implies_true, true_and, and_true, ab_z01, or_true, true_or, reduceCtorEq, Option.some.injEq, Int.reduceEq, Int.reduceNe, Int.reduceLT, Int.reduceLE, Int.reduceNeg, Int.reduceAdd, Int.reduceSub, Int.reduceMul, Nat.reduceEqDiff, Nat.reduceAdd, Nat.reduceMul, Int.reduceToNat, ↓reduceIte]
      obtain ⟨_, _, _, wn1⟩ := wo.WN
      refine cv_i wn1.1 (cc_wkind wo ?_)
      simp only [kI_some, kL_some, kR_some, kV_none, ne_eq, not_true_eq_false, not_false_eq_true, true_implies, false_implies, implies_true, true_and, and_true, ab_z01, or_true, true_or, reduceCtorEq, Option.some.injEq, Int.reduceEq, Int.reduceNe, Int.reduceLT, Int.reduceLE, Int.reduceNeg, Int.reduceAdd, Int.reduceSub, Int.reduceMul, Nat.reduceEqDiff, Nat.reduceAdd, Nat.reduceMul, Int.reduceToNat, ↓reduceIte]
      refine ⟨fun y => ⟨i3 (by omega) (by omega), ?_⟩, fun y => ⟨i3 (by omega) (by omega), i3 (by omega) (by omega), ?_⟩⟩
      · rw [if_neg (by rw [hp]; simp only [Bool.and_eq_true, decide_eq_true_eq]; exact fun z => y z.2), Nat.add_zero] at ih
        exact ih h2 c2 (x1.tr x2)
      · rw [if_pos (by rw [hp]; simp only [Bool.and_eq_true, decide_eq_true_eq]; exact ⟨hqn, Classical.byContradiction y⟩)] at ih
        exact ih h2 c2 (x1.tr x2)
    · refine ⟨i3 (by omega) (by omega), ?_⟩
      rw [if_neg (by rw [hp]; simp only [Bool.and_eq_true, decide_eq_true_eq]; omega), Nat.add_zero] at ih
      exact ih h1 c1 x1
set_option maxRecDepth 100000 in
set_option maxHeartbeats 4000000 in
theorem cp_count {d : Nat} {h : AbH} {K : Option AbV → AbH → Prop} {A : Nat → Nat} {M : Nat → Prop} {w : Nat → Int} {u : Nat} {pr : Nat → Nat → Int} {kv : Nat → Option (Nat → Int)} {T : Nat → Int} {L : Nat} (c : CS A M h w u pr kv T L) {j : Int} (kk : ∀ h1, CS A M h1 w u pr kv T L → Xt (QA A) h h1 → K (some (vI (qCount w (u : Int) (L : Int) j))) h1) : Vm (d + 7) m_X9_count [vR (some (A 0)), vI j] h K := by
  obtain ⟨nw, o1, cw, hdg⟩ := c.2.1
  obtain ⟨hw, al, ao, af, ae, g1, g2, ff, fl, cx, -⟩ := id cw
  obtain ⟨I, F', G', Y, ly⟩ := c.2.2.2.2.2.2.1
  obtain ⟨g, ps, -⟩ := c.2.2.1
  obtain ⟨-, tc, ts, te, tk', tx⟩ := c.2.2.2.2.1
  unfold qCount at kk
  have lws : ∀ i : Nat, i ≤ 3 → j = (i : Int) + 9 → wpGR h (some (A 0)) 8 0 (fun r34 => in32 (j - 9) ∧ wpCV h r34 7 (fun b38 => Vm (d + 6) m_X8_lawsOf [vR (some b38), vI (j - 9)] h (kI (fun n37 h36 => K (some (vI n37)) h36)))) := by
    intro i hi hj
    rw [if_neg (by omega), if_neg (by omega), if_neg (by omega), if_neg (by omega), if_neg (by omega), if_neg (by omega), if_neg (by omega), if_pos (by omega)] at kk
    refine gR_i o1 rfl ⟨i3 (by omega) (by omega), cv_i cx.1 (cc_lawsOf hw cx ?_)⟩
    simp only [kI_some, kL_some, kR_some, kV_none, ne_eq, not_true_eq_false, not_false_eq_true, true_implies, false_implies, implies_true, true_and, and_true, ab_z01, or_true, true_or, reduceCtorEq, Option.some.injEq, Int.reduceEq, Int.reduceNe, Int.reduceLT, Int.reduceLE, Int.reduceNeg, Int.reduceAdd, Int.reduceSub, Int.reduceMul, Nat.reduceEqDiff, Nat.reduceAdd, Nat.reduceMul, Int.reduceToNat, ↓reduceIte]
    exact kk h c Xt.rf
  have kds : ∀ i : Nat, i ≤ 2 → j = (i : Int) + 3 → in32 (j - 3) ∧ wpCV h (some (A 0)) 8 (fun b12 => Vm (d + 6) m_X9_loansOfKind [vR (some b12), vI (j - 3)] h (kI (fun n11 h10 => K (some (vI n11)) h10))) := by
    intro i hi hj
    rw [if_neg (by omega), if_neg (by omega), if_neg (by omega), if_pos (by omega)] at kk
    refine ⟨i3 (by omega) (by omega), cv_i o1 (cp_kinds c (by omega) (fun h1 c1 x1 => ?_))⟩
    simp only [kI_some, kL_some, kR_some, kV_none, ne_eq, not_true_eq_false, not_false_eq_true, true_implies, false_implies, implies_true, true_and, and_true, ab_z01, or_true, true_or, reduceCtorEq, Option.some.injEq, Int.reduceEq, Int.reduceNe, Int.reduceLT, Int.reduceLE, Int.reduceNeg, Int.reduceAdd, Int.reduceSub, Int.reduceMul, Nat.reduceEqDiff, Nat.reduceAdd, Nat.reduceMul, Int.reduceToNat, ↓reduceIte]
    exact kk h1 c1 x1
  refine Vm.intro rfl (Nat.le_of_ble_eq_true rfl) (fun _ => B_X9_count_0 ?_)
  refine ⟨fun z => ?_, fun z => ?_, fun z => ?_, fun z => kds 0 (by decide) z, fun z => kds 1 (by decide) z, fun z => kds 2 (by decide) z, fun z => ?_, fun z => ?_, fun z => ?_, fun z => lws 0 (by decide) z, fun z => lws 1 (by decide) z, fun z => lws 2 (by decide) z, fun z => lws 3 (by decide) z, fun z => ?_⟩
  · rw [if_pos z] at kk
    exact gR_i o1 rfl (gI_i cx.1 rfl (kk h c Xt.rf))
  · rw [if_neg (by omega), if_pos z] at kk
    refine gR_i o1 rfl (cv_i cx.1 (cc_meetings hw cx ?_))
    simp only [kI_some, kL_some, kR_some, kV_none, ne_eq, not_true_eq_false, not_false_eq_true, true_implies, false_implies, implies_true, true_and, and_true, ab_z01, or_true, true_or, reduceCtorEq, Option.some.injEq, Int.reduceEq, Int.reduceNe, Int.reduceLT, Int.reduceLE, Int.reduceNeg, Int.reduceAdd, Int.reduceSub, Int.reduceMul, Nat.reduceEqDiff, Nat.reduceAdd, Nat.reduceMul, Int.reduceToNat, ↓reduceIte]
    exact kk h c Xt.rf
  · rw [if_neg (by omega), if_neg (by omega), if_pos z] at kk
    exact gR_i o1 rfl (gI_i cx.1 rfl (kk h c Xt.rf))
  · rw [if_neg (by omega), if_neg (by omega), if_neg (by omega), if_neg (by omega), if_pos z] at kk
    refine gR_i o1 rfl (gR_i o1 rfl (gR_i o1 rfl (cv_i ly.1 (cp_yof c o1 cw (fun h1 c1 x1 lo1 => ?_)))))
    simp only [kI_some, kL_some, kR_some, kV_none, ne_eq, not_true_eq_false, not_false_eq_true, true_implies, false_implies, implies_true, true_and, and_true, ab_z01, or_true, true_or, reduceCtorEq, Option.some.injEq, Int.reduceEq, Int.reduceNe, Int.reduceLT, Int.reduceLE, Int.reduceNeg, Int.reduceAdd, Int.reduceSub, Int.reduceMul, Nat.reduceEqDiff, Nat.reduceAdd, Nat.reduceMul, Int.reduceToNat, ↓reduceIte]
    obtain ⟨_, _, _, _, ly1, _⟩ := id lo1
    refine cv_i ly1.1 (cc_ygreatest hw lo1 ?_)
    simp only [kI_some, kL_some, kR_some, kV_none, ne_eq, not_true_eq_false, not_false_eq_true, true_implies, false_implies, implies_true, true_and, and_true, ab_z01, or_true, true_or, reduceCtorEq, Option.some.injEq, Int.reduceEq, Int.reduceNe, Int.reduceLT, Int.reduceLE, Int.reduceNeg, Int.reduceAdd, Int.reduceSub, Int.reduceMul, Nat.reduceEqDiff, Nat.reduceAdd, Nat.reduceMul, Int.reduceToNat, ↓reduceIte]
    exact kk h1 c1 x1
  · rw [if_neg (by omega), if_neg (by omega), if_neg (by omega), if_neg (by omega), if_neg (by omega), if_pos z] at kk
    exact gR_i o1 rfl (gI_i ps.1 rfl (kk h c Xt.rf))
  · rw [if_neg (by omega), if_neg (by omega), if_neg (by omega), if_neg (by omega), if_neg (by omega), if_neg (by omega), if_pos z] at kk
    exact gR_i o1 rfl (gI_i tx.1 rfl (kk h c Xt.rf))
  · rw [if_neg (by omega), if_neg (by omega), if_neg (by omega), if_neg (by omega), if_neg (by omega), if_neg (by omega), if_neg (by omega), if_neg (by omega)] at kk
    exact kk h c Xt.rf
