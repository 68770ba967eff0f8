/-! what the class answers -/
theorem word_len {w : Nat → Int} {k : Nat} (hv : loanV w k) : ((word w k).length : Int) = lo w k 2 ∧ ((wend w k).length : Int) = lo w k 3 := by
  obtain ⟨-, -, -, g4, g5, -, -⟩ := hv
  constructor
  · unfold word; rw [List.length_map, List.length_range]; omega
  · unfold wend; rw [List.length_map, List.length_range]; omega
theorem wrd_at {w : Nat → Int} {k : Nat} {i : Nat} (hi : i < (word w k).length) : (word w k).getD i 0 = lo w k (4 + i) := by
  unfold word at hi ⊢
  rw [List.length_map, List.length_range] at hi
  rw [List.getD_eq_getElem?_getD, List.getElem?_map, List.getElem?_range hi]
  rfl
theorem wen_at {w : Nat → Int} {k : Nat} {i : Nat} (hi : i < (wend w k).length) : (wend w k).getD i 0 = lo w k (12 + i) := by
  unfold wend at hi ⊢
  rw [List.length_map, List.length_range] at hi
  rw [List.getD_eq_getElem?_getD, List.getElem?_map, List.getElem?_range hi]
  rfl
set_option maxRecDepth 100000 in
set_option maxHeartbeats 4000000 in
theorem cp_told {d : Nat} {h : AbH} {K : Option AbV → AbH → Prop} {A : Nat → Nat} {M : Nat → Prop} {w : Nat → Int} {u : Nat} {pr : Nat → Nat → Int} {kv : Nat → Option (Nat → Int)} {T : Nat → Int} {L : Nat} (c : CS A M h w u pr kv T L) {k j : Int} (kk : ∀ h1, CS A M h1 w u pr kv T L → Xt (QA A) h h1 → K (some (vI (qTold w k j))) h1) : Vm (d + 3) m_X9_told [vR (some (A 0)), vI k, vI j] h K := by
  have kk := kk h c Xt.rf
  obtain ⟨nw, o1, cw, hdg⟩ := c.2.1
  obtain ⟨hw, al, ao, af, ae, g1, g2, ff, fl, cx, -⟩ := cw
  obtain ⟨n1, n2⟩ := hw.nlw
  unfold qTold at kk
  refine Vm.intro rfl (Nat.le_of_ble_eq_true rfl) (fun _ => B_X9_told_0 ?_)
  refine gR_i o1 rfl (cv_i cx.1 (cc_lawAt hw cx (fun q hq hqn b _ hb _ => ?_) (fun z => ?_))) <;> simp only [kI_some, kL_some, kR_some, kV_none, ne_eq, not_true_eq_false, not_false_eq_true, true_implies, false_implies, implies_true, true_and, and_true, ab_z01, or_true, true_or, reduceCtorEq, Option.some.injEq, Int.reduceEq, Int.reduceNe, Int.reduceLT, Int.reduceLE, Int.reduceNeg, Int.reduceAdd, Int.reduceSub, Int.reduceMul, Nat.reduceEqDiff, Nat.reduceAdd, Nat.reduceMul, Int.reduceToNat, ↓reduceIte]
  · rw [if_neg (by omega)] at kk
    have e : k.toNat = q := by omega
    rw [e] at kk
    have st : ∀ i : Nat, i ≤ 5 → j = (i : Int) → K (some (vI (lw w q i))) h := fun i hi hj => by
      rw [if_neg (by omega), show j.toNat = i by omega] at kk
      exact kk
    refine ⟨fun z => gI_i hb rfl (st 0 (by decide) z), fun z => gI_i hb rfl (st 1 (by decide) z), fun z => gI_i hb rfl (st 2 (by decide) z), fun z => gI_i hb rfl (st 3 (by decide) z), fun z => gI_i hb rfl (st 4 (by decide) z), fun z => gI_i hb rfl (st 5 (by decide) z), fun z => ?_⟩
    rw [if_pos (by omega)] at kk
    exact kk
  · rw [if_pos z] at kk
    exact kk
set_option maxRecDepth 100000 in
set_option maxHeartbeats 4000000 in
theorem cp_meeting {d : Nat} {h : AbH} {K : Option AbV → AbH → Prop} {A : Nat → Nat} {M : Nat → Prop} {w : Nat → Int} {u : Nat} {pr : Nat → Nat → Int} {kv : Nat → Option (Nat → Int)} {T : Nat → Int} {L : Nat} (c : CS A M h w u pr kv T L) {f t j : Int} (kk : ∀ h1, CS A M h1 w u pr kv T L → Xt (QA A) h h1 → K (some (vI (qMeet w f t j))) h1) : Vm (d + 3) m_X9_meeting [vR (some (A 0)), vI f, vI t, vI j] h K := by
  have kk := kk h c Xt.rf
  obtain ⟨nw, o1, cw, hdg⟩ := c.2.1
  obtain ⟨hw, al, ao, af, ae, g1, g2, ff, fl, cx, -⟩ := cw
  unfold qMeet at kk
  refine Vm.intro rfl (Nat.le_of_ble_eq_true rfl) (fun _ => B_X9_meeting_0 ?_)
  refine cc_pairOf (fun q => ?_) (fun q => ?_) <;> simp only [kI_some, kL_some, kR_some, kV_none, ne_eq, not_true_eq_false, not_false_eq_true, true_implies, false_implies, implies_true, true_and, and_true, ab_z01, or_true, true_or, reduceCtorEq, Option.some.injEq, Int.reduceEq, Int.reduceNe, Int.reduceLT, Int.reduceLE, Int.reduceNeg, Int.reduceAdd, Int.reduceSub, Int.reduceMul, Nat.reduceEqDiff, Nat.reduceAdd, Nat.reduceMul, Int.reduceToNat, ↓reduceIte]
  · obtain ⟨q1, q2, q3⟩ := q
    have q1a := q1.1
    have q1b := q1.2
    have q2a := q2.1
    have q2b := q2.2
    rw [if_neg (fun z => z ⟨by omega, by omega, q3⟩)] at kk
    obtain ⟨p, hp⟩ : ∃ p, p = 4 * f.toNat + t.toNat := ⟨_, rfl⟩
    rw [← hp] at kk
    have e1 : fO w (f * 4 + t) = w (98 + 2 * p) - 1 := by unfold fO; rw [if_pos (by omega), show (f * 4 + t).toNat = p by omega]
    have e2 : lO w (f * 4 + t) = if w (98 + 2 * p) = 0 then -1 else w (98 + 2 * p + 1) := by unfold lO; rw [if_pos (by omega), show (f * 4 + t).toNat = p by omega]
    refine gR_i o1 rfl (cv_i cx.1 (cc_firstOf cx ?_))
    simp only [kI_some, kL_some, kR_some, kV_none, ne_eq, not_true_eq_false, not_false_eq_true, true_implies, false_implies, implies_true, true_and, and_true, ab_z01, or_true, true_or, reduceCtorEq, Option.some.injEq, Int.reduceEq, Int.reduceNe, Int.reduceLT, Int.reduceLE, Int.reduceNeg, Int.reduceAdd, Int.reduceSub, Int.reduceMul, Nat.reduceEqDiff, Nat.reduceAdd, Nat.reduceMul, Int.reduceToNat, ↓reduceIte]
    rw [e1]
    refine ⟨fun z => ?_, fun z => ?_⟩
    · rw [if_neg (show ¬ w (98 + 2 * p) = 0 by omega)] at kk
      refine cc_within (fun y => ?_) (fun y => ?_) <;> simp only [kI_some, kL_some, kR_some, kV_none, ne_eq, not_true_eq_false, not_false_eq_true, true_implies, false_implies, implies_true, true_and, and_true, ab_z01, or_true, true_or, reduceCtorEq, Option.some.injEq, Int.reduceEq, Int.reduceNe, Int.reduceLT, Int.reduceLE, Int.reduceNeg, Int.reduceAdd, Int.reduceSub, Int.reduceMul, Nat.reduceEqDiff, Nat.reduceAdd, Nat.reduceMul, Int.reduceToNat, ↓reduceIte]
      · refine ⟨fun x => ?_, fun x => ?_⟩
        · refine gR_i o1 rfl (cv_i cx.1 (cc_lastOf cx ?_))
          simp only [kI_some, kL_some, kR_some, kV_none, ne_eq, not_true_eq_false, not_false_eq_true, true_implies, false_implies, implies_true, true_and, and_true, ab_z01, or_true, true_or, reduceCtorEq, Option.some.injEq, Int.reduceEq, Int.reduceNe, Int.reduceLT, Int.reduceLE, Int.reduceNeg, Int.reduceAdd, Int.reduceSub, Int.reduceMul, Nat.reduceEqDiff, Nat.reduceAdd, Nat.reduceMul, Int.reduceToNat, ↓reduceIte]
          rw [e2, if_neg (by omega)]
          rw [if_neg x, if_pos (by omega)] at kk
          exact kk
        · refine gR_i o1 rfl (cv_i cx.1 (cc_firstOf cx ?_))
          simp only [kI_some, kL_some, kR_some, kV_none, ne_eq, not_true_eq_false, not_false_eq_true, true_implies, false_implies, implies_true, true_and, and_true, ab_z01, or_true, true_or, reduceCtorEq, Option.some.injEq, Int.reduceEq, Int.reduceNe, Int.reduceLT, Int.reduceLE, Int.reduceNeg, Int.reduceAdd, Int.reduceSub, Int.reduceMul, Nat.reduceEqDiff, Nat.reduceAdd, Nat.reduceMul, Int.reduceToNat, ↓reduceIte]
          rw [e1]
          rw [if_pos (Classical.byContradiction x)] at kk
          exact kk
      · rw [if_neg (by omega), if_neg (by omega)] at kk
        exact kk
    · rw [if_pos (by have := Classical.byContradiction z; omega)] at kk
      exact kk
  · rw [if_pos (fun z => q ⟨⟨by omega, by omega⟩, ⟨by omega, by omega⟩, z.2.2⟩)] at kk
    refine gR_i o1 rfl (cv_i cx.1 (cc_firstOf cx ?_))
    simp only [kI_some, kL_some, kR_some, kV_none, ne_eq, not_true_eq_false, not_false_eq_true, true_implies, false_implies, implies_true, true_and, and_true, ab_z01, or_true, true_or, reduceCtorEq, Option.some.injEq, Int.reduceEq, Int.reduceNe, Int.reduceLT, Int.reduceLE, Int.reduceNeg, Int.reduceAdd, Int.reduceSub, Int.reduceMul, Nat.reduceEqDiff, Nat.reduceAdd, Nat.reduceMul, Int.reduceToNat, ↓reduceIte]
    have e1 : fO w (-1) = -1 := by unfold fO; rw [if_neg (by omega)]
    rw [e1]
    exact ⟨fun z => absurd rfl z, fun _ => kk⟩
set_option maxRecDepth 100000 in
set_option maxHeartbeats 4000000 in
theorem cp_wof {d : Nat} {h : AbH} {K : Option AbV → AbH → Prop} {A : Nat → Nat} {M : Nat → Prop} {w : Nat → Int} {u : Nat} {pr : Nat → Nat → Int} {kv : Nat → Option (Nat → Int)} {T : Nat → Int} {L : Nat} (c : CS A M h w u pr kv T L) {k b nw : Nat} (o1 : hpO h (A 0) = some (8, oF A nw)) (cw : CW (PQ A M) h nw w) (hk : k < no w) (hb : hpO h b = some (2, loF w k)) (hbP : ¬ PQ A M b) (kk : ∀ h1, CS A M h1 w u pr kv T L → Xt (QA A) h h1 → WO h1 (A 6) (A 7) (A 8) w k → hpO h1 (A 0) = some (8, oF A nw) → K (some (vR (some (A 6)))) h1) : Vm (d + 5) m_X7_of [vR (some (A 6)), vR (some nw), vR (some b)] h K := by
  have s0 := c.1
  refine cc_wof2 cw hk hb hbP c.2.2.2.2.2.1 (fun q z => Or.inl (sa_qa (by decide) q (w3_sa q z))) (fun h1 wo x => ?_)
  have x' := x.mono w3_sa
  exact kk h1 (c.win x' wo.WN) (x'.mono (sa_qa (by decide))) wo (x'.O (sa_not s0.1 (by decide) (by decide) (by decide)) o1)
set_option maxRecDepth 100000 in
set_option maxHeartbeats 4000000 in
theorem cp_yof {d : Nat} {h : AbH} {K : Option AbV → AbH → Prop} {A : Nat → Nat} {M : Nat → Prop} {w : Nat → Int} {u : Nat} {pr : Nat → Nat → Int} {kv : Nat → Option (Nat → Int)} {T : Nat → Int} {L : Nat} (c : CS A M h w u pr kv T L) {nw : Nat} (o1 : hpO h (A 0) = some (8, oF A nw)) (cw : CW (PQ A M) h nw w) (kk : ∀ h1, CS A M h1 w u pr kv T L → Xt (QA A) h h1 → LO h1 (A 9) (A 10) (A 11) (A 12) (A 13) w → K (some (vR (some (A 9)))) h1) : Vm (d + 6) m_X2_of [vR (some (A 9)), vR (some nw), vR (some (A 6))] h K := by
  have s0 := c.1
  have hA := s0.1
  have ne : ∀ i j, i < 19 → j < 19 → i ≠ j → A i ≠ A j := fun i j hi hj hn e => hn (hA i j hi hj e)
  obtain ⟨I, F, G, Y, ly⟩ := c.2.2.2.2.2.2.1
  refine cc_yof cw ly ⟨ne _ _ (by decide) (by decide) (by decide), ne _ _ (by decide) (by decide) (by decide), ne _ _ (by decide) (by decide) (by decide), ne _ _ (by decide) (by decide) (by decide), ne _ _ (by decide) (by decide) (by decide), ne _ _ (by decide) (by decide) (by decide)⟩ c.2.2.2.2.2.1 (fun q z => Or.inl (sa_qa (by decide) q (y7_sa q z))) (fun z => sa_not hA (I := [6, 7, 8]) (i := 9) (by decide) (by decide) (by decide) (w3_sa _ z)) (fun q z1 z2 => ?_) (fun h1 x lo1 wn => ?_)
  · have z2 := w3_sa _ z2
    rcases z1 with z1 | z1 | z1 | z1
    · rw [z1] at z2; exact sa_not hA (i := 10) (by decide) (by decide) (by decide) z2
    · rw [z1] at z2; exact sa_not hA (i := 11) (by decide) (by decide) (by decide) z2
    · rw [z1] at z2; exact sa_not hA (i := 12) (by decide) (by decide) (by decide) z2
    · rw [z1] at z2; exact sa_not hA (i := 13) (by decide) (by decide) (by decide) z2
  · have x' := x.mono y7_sa
    obtain ⟨I', F', G', Y', ly', _⟩ := id lo1
    exact kk h1 (c.lay x' wn ⟨I', F', G', Y', ly'⟩) (x'.mono (sa_qa (by decide))) lo1
set_option maxRecDepth 100000 in
set_option maxHeartbeats 4000000 in
theorem cp_loan {d : Nat} {h : AbH} {K : Option AbV → AbH → Prop} {A : Nat → Nat} {M : Nat → Prop} {w : Nat → Int} {u : Nat} {pr : Nat → Nat → Int} {kv : Nat → Option (Nat → Int)} {T : Nat → Int} {L : Nat} (c : CS A M h w u pr kv T L) {k j : Int} (kk : ∀ h1, CS A M h1 w u pr kv T L → Xt (QA A) h h1 → K (some (vI (qLoan w k j))) h1) : Vm (d + 7) m_X9_loan [vR (some (A 0)), vI k, vI j] h K := by
  obtain ⟨nw, o1, cw, hdg⟩ := c.2.1
  obtain ⟨hw, al, ao, af, ae, g1, g2, ff, fl, cx, -⟩ := id cw
  obtain ⟨n1, n2⟩ := hw.now
  unfold qLoan at kk
  refine Vm.intro rfl (Nat.le_of_ble_eq_true rfl) (fun _ => B_X9_loan_0 ?_)
  refine gR_i o1 rfl (cv_i cx.1 (cc_loanAt hw cx (fun q hq hqn b _ hb hbP => ?_) (fun z => ?_))) <;> simp only [kI_some, kL_some, kR_some, kV_none, ne_eq, not_true_eq_false, not_false_eq_true, true_implies, false_implies, implies_true, true_and, and_true, ab_z01, or_true, true_or, reduceCtorEq, Option.some.injEq, Int.reduceEq, Int.reduceNe, Int.reduceLT, Int.reduceLE, Int.reduceNeg, Int.reduceAdd, Int.reduceSub, Int.reduceMul, Nat.reduceEqDiff, Nat.reduceAdd, Nat.reduceMul, Int.reduceToNat, ↓reduceIte]
  · rw [if_neg (by omega)] at kk
    have e : k.toNat = q := by omega
    rw [e] at kk
    rw [hq]
    have hlv := hw.2.2.2.2 q hqn
    obtain ⟨wl, el⟩ := word_len hlv
    obtain ⟨n, F, G, wn⟩ := c.2.2.2.2.2.1
    obtain ⟨I, F', G', Y, ly⟩ := c.2.2.2.2.2.2.1
    refine ⟨fun z => ?_, fun z => ?_, fun z => ?_, fun z => ?_, fun z => ?_, fun z => ?_, fun z => ?_, fun z => ?_, fun z => ?_, fun z => ?_, fun z => ?_⟩
    · rw [if_pos (by omega), show j.toNat = 0 by omega] at kk
      exact gI_i hb rfl (kk h c Xt.rf)
    · rw [if_pos (by omega), show j.toNat = 1 by omega] at kk
      exact gI_i hb rfl (kk h c Xt.rf)
    · rw [if_pos (by omega), show j.toNat = 2 by omega] at kk
      refine gL_i hb rfl (cc_length (word_V hlv) ?_)
      simp only [kI_some, kL_some, kR_some, kV_none, ne_eq, not_true_eq_false, not_false_eq_true, true_implies, false_implies, implies_true, true_and, and_true, ab_z01, or_true, true_or, reduceCtorEq, Option.some.injEq, Int.reduceEq, Int.reduceNe, Int.reduceLT, Int.reduceLE, Int.reduceNeg, Int.reduceAdd, Int.reduceSub, Int.reduceMul, Nat.reduceEqDiff, Nat.reduceAdd, Nat.reduceMul, Int.reduceToNat, ↓reduceIte]
      rw [wl]
      exact kk h c Xt.rf
    · rw [if_pos (by omega), show j.toNat = 3 by omega] at kk
      refine gL_i hb rfl (cc_length (wend_V hlv) ?_)
      simp only [kI_some, kL_some, kR_some, kV_none, ne_eq, not_true_eq_false, not_false_eq_true, true_implies, false_implies, implies_true, true_and, and_true, ab_z01, or_true, true_or, reduceCtorEq, Option.some.injEq, Int.reduceEq, Int.reduceNe, Int.reduceLT, Int.reduceLE, Int.reduceNeg, Int.reduceAdd, Int.reduceSub, Int.reduceMul, Nat.reduceEqDiff, Nat.reduceAdd, Nat.reduceMul, Int.reduceToNat, ↓reduceIte]
      rw [el]
      exact kk h c Xt.rf
    · rw [if_neg (by omega), if_pos z] at kk
      refine gR_i o1 rfl (gR_i o1 rfl (cv_i wn.1 (cp_wof c o1 cw hqn hb hbP (fun h1 c1 x1 wo _ => ?_))))
      simp only [kI_some, kL_some, kR_some, kV_none, ne_eq, not_true_eq_false, not_false_eq_true, true_implies, false_implies, implies_true, true_and, and_true, ab_z01, or_true, true_or, reduceCtorEq, Option.some.injEq, Int.reduceEq, Int.reduceNe, Int.reduceLT, Int.reduceLE, Int.reduceNeg, Int.reduceAdd, Int.reduceSub, Int.reduceMul, Nat.reduceEqDiff, Nat.reduceAdd, Nat.reduceMul, Int.reduceToNat, ↓reduceIte]
      obtain ⟨_, _, _, wn1⟩ := wo.WN
      refine cv_i wn1.1 (cc_wkind wo ?_)
      simp only [kI_some, kL_some, kR_some, kV_none, ne_eq, not_true_eq_false, not_false_eq_true, true_implies, false_implies, implies_true, true_and, and_true, ab_z01, or_true, true_or, reduceCtorEq, Option.some.injEq, Int.reduceEq, Int.reduceNe, Int.reduceLT, Int.reduceLE, Int.reduceNeg, Int.reduceAdd, Int.reduceSub, Int.reduceMul, Nat.reduceEqDiff, Nat.reduceAdd, Nat.reduceMul, Int.reduceToNat, ↓reduceIte]
      exact kk h1 c1 x1
    · rw [if_neg (by omega), if_neg (by omega), if_pos z] at kk
      refine gR_i o1 rfl (gR_i o1 rfl (cv_i wn.1 (cp_wof c o1 cw hqn hb hbP (fun h1 c1 x1 wo _ => ?_))))
      simp only [kI_some, kL_some, kR_some, kV_none, ne_eq, not_true_eq_false, not_false_eq_true, true_implies, false_implies, implies_true, true_and, and_true, ab_z01, or_true, true_or, reduceCtorEq, Option.some.injEq, Int.reduceEq, Int.reduceNe, Int.reduceLT, Int.reduceLE, Int.reduceNeg, Int.reduceAdd, Int.reduceSub, Int.reduceMul, Nat.reduceEqDiff, Nat.reduceAdd, Nat.reduceMul, Int.reduceToNat, ↓reduceIte]
      obtain ⟨n', A', B', wn1, e1, -⟩ := wo
      refine gI_i wn1.1 rfl ?_
      rw [e1]
      exact kk h1 c1 x1
    · rw [if_neg (by omega), if_neg (by omega), if_neg (by omega), if_pos z] at kk
      refine gR_i o1 rfl (gR_i o1 rfl (cv_i wn.1 (cp_wof c o1 cw hqn hb hbP (fun h1 c1 x1 wo _ => ?_))))
      simp only [kI_some, kL_some, kR_some, kV_none, ne_eq, not_true_eq_false, not_false_eq_true, true_implies, false_implies, implies_true, true_and, and_true, ab_z01, or_true, true_or, reduceCtorEq, Option.some.injEq, Int.reduceEq, Int.reduceNe, Int.reduceLT, Int.reduceLE, Int.reduceNeg, Int.reduceAdd, Int.reduceSub, Int.reduceMul, Nat.reduceEqDiff, Nat.reduceAdd, Nat.reduceMul, Int.reduceToNat, ↓reduceIte]
      obtain ⟨_, _, _, wn1⟩ := wo.WN
      refine cv_i wn1.1 (cc_wearliest wo ?_)
      simp only [kI_some, kL_some, kR_some, kV_none, ne_eq, not_true_eq_false, not_false_eq_true, true_implies, false_implies, implies_true, true_and, and_true, ab_z01, or_true, true_or, reduceCtorEq, Option.some.injEq, Int.reduceEq, Int.reduceNe, Int.reduceLT, Int.reduceLE, Int.reduceNeg, Int.reduceAdd, Int.reduceSub, Int.reduceMul, Nat.reduceEqDiff, Nat.reduceAdd, Nat.reduceMul, Int.reduceToNat, ↓reduceIte]
      exact kk h1 c1 x1
    · rw [if_neg (by omega), if_neg (by omega), if_neg (by omega), if_neg (by omega), if_pos z] at kk
      refine gR_i o1 rfl (gR_i o1 rfl (cv_i wn.1 (cp_wof c o1 cw hqn hb hbP (fun h1 c1 x1 wo _ => ?_))))
      simp only [kI_some, kL_some, kR_some, kV_none, ne_eq, not_true_eq_false, not_false_eq_true, true_implies, false_implies, implies_true, true_and, and_true, ab_z01, or_true, true_or, reduceCtorEq, Option.some.injEq, Int.reduceEq, Int.reduceNe, Int.reduceLT, Int.reduceLE, Int.reduceNeg, Int.reduceAdd, Int.reduceSub, Int.reduceMul, Nat.reduceEqDiff, Nat.reduceAdd, Nat.reduceMul, Int.reduceToNat, ↓reduceIte]
      obtain ⟨_, _, _, wn1⟩ := wo.WN
      refine cv_i wn1.1 (cc_wlatest wo ?_)
      simp only [kI_some, kL_some, kR_some, kV_none, ne_eq, not_true_eq_false, not_false_eq_true, true_implies, false_implies, implies_true, true_and, and_true, ab_z01, or_true, true_or, reduceCtorEq, Option.some.injEq, Int.reduceEq, Int.reduceNe, Int.reduceLT, Int.reduceLE, Int.reduceNeg, Int.reduceAdd, Int.reduceSub, Int.reduceMul, Nat.reduceEqDiff, Nat.reduceAdd, Nat.reduceMul, Int.reduceToNat, ↓reduceIte]
      exact kk h1 c1 x1
    · rw [if_neg (by omega), if_neg (by omega), if_neg (by omega), if_neg (by omega), if_neg (by omega), if_pos z] at kk
      refine gR_i o1 rfl (gR_i o1 rfl (gR_i o1 rfl (cv_i ly.1 (cp_yof c o1 cw (fun h1 c1 x1 lo1 => ?_)))))
      simp only [kI_some, kL_some, kR_some, kV_none, ne_eq, not_true_eq_false, not_false_eq_true, true_implies, false_implies, implies_true, true_and, and_true, ab_z01, or_true, true_or, reduceCtorEq, Option.some.injEq, Int.reduceEq, Int.reduceNe, Int.reduceLT, Int.reduceLE, Int.reduceNeg, Int.reduceAdd, Int.reduceSub, Int.reduceMul, Nat.reduceEqDiff, Nat.reduceAdd, Nat.reduceMul, Int.reduceToNat, ↓reduceIte]
      obtain ⟨_, _, _, _, ly1, _⟩ := id lo1
      refine cv_i ly1.1 (cc_ylayerOf hw lo1 hqn ?_)
      simp only [kI_some, kL_some, kR_some, kV_none, ne_eq, not_true_eq_false, not_false_eq_true, true_implies, false_implies, implies_true, true_and, and_true, ab_z01, or_true, true_or, reduceCtorEq, Option.some.injEq, Int.reduceEq, Int.reduceNe, Int.reduceLT, Int.reduceLE, Int.reduceNeg, Int.reduceAdd, Int.reduceSub, Int.reduceMul, Nat.reduceEqDiff, Nat.reduceAdd, Nat.reduceMul, Int.reduceToNat, ↓reduceIte]
      exact kk h1 c1 x1
    · rw [if_neg (by omega), if_neg (by omega), if_neg (by omega), if_neg (by omega), if_neg (by omega), if_neg (by omega), if_pos z] at kk
      refine gR_i o1 rfl (gR_i o1 rfl (gR_i o1 rfl (cv_i ly.1 (cp_yof c o1 cw (fun h1 c1 x1 lo1 => ?_)))))
      simp only [kI_some, kL_some, kR_some, kV_none, ne_eq, not_true_eq_false, not_false_eq_true, true_implies, false_implies, implies_true, true_and, and_true, ab_z01, or_true, true_or, reduceCtorEq, Option.some.injEq, Int.reduceEq, Int.reduceNe, Int.reduceLT, Int.reduceLE, Int.reduceNeg, Int.reduceAdd, Int.reduceSub, Int.reduceMul, Nat.reduceEqDiff, Nat.reduceAdd, Nat.reduceMul, Int.reduceToNat, ↓reduceIte]
      obtain ⟨_, _, _, _, ly1, _⟩ := id lo1
      refine cv_i ly1.1 (cc_yolderThan hw lo1 hqn ?_)
      simp only [kI_some, kL_some, kR_some, kV_none, ne_eq, not_true_eq_false, not_false_eq_true, true_implies, false_implies, implies_true, true_and, and_true, ab_z01, or_true, true_or, reduceCtorEq, Option.some.injEq, Int.reduceEq, Int.reduceNe, Int.reduceLT, Int.reduceLE, Int.reduceNeg, Int.reduceAdd, Int.reduceSub, Int.reduceMul, Nat.reduceEqDiff, Nat.reduceAdd, Nat.reduceMul, Int.reduceToNat, ↓reduceIte]
      exact kk h1 c1 x1
    · rw [if_neg (by omega), if_neg (by omega), if_neg (by omega), if_neg (by omega), if_neg (by omega), if_neg (by omega), if_neg (by omega)] at kk
      exact kk h c Xt.rf
  · rw [if_pos z] at kk
    exact kk h c Xt.rf
set_option maxRecDepth 100000 in
set_option maxHeartbeats 4000000 in
theorem cp_sound {d : Nat} {h : AbH} {K : Option AbV → AbH → Prop} {A : Nat → Nat} {M : Nat → Prop} {w : Nat → Int} {u : Nat} {pr : Nat → Nat → Int} {kv : Nat → Option (Nat → Int)} {T : Nat → Int} {L : Nat} (c : CS A M h w u pr kv T L) {k j i : Int} (kk : ∀ h1, CS A M h1 w u pr kv T L → Xt (QA A) h h1 → K (some (vI (qSound w k j i))) h1) : Vm (d + 3) m_X9_sound [vR (some (A 0)), vI k, vI j, vI i] h K := by
  have kk := kk h c Xt.rf
  obtain ⟨nw, o1, cw, hdg⟩ := c.2.1
  obtain ⟨hw, al, ao, af, ae, g1, g2, ff, fl, cx, -⟩ := id cw
  obtain ⟨n1, n2⟩ := hw.now
  unfold qSound at kk
  refine Vm.intro rfl (Nat.le_of_ble_eq_true rfl) (fun _ => B_X9_sound_0 ?_)
  refine gR_i o1 rfl (cv_i cx.1 (cc_loanAt hw cx (fun q hq hqn b _ hb hbP => ?_) (fun z => ?_))) <;> simp only [kI_some, kL_some, kR_some, kV_none, ne_eq, not_true_eq_false, not_false_eq_true, true_implies, false_implies, implies_true, true_and, and_true, ab_z01, or_true, true_or, reduceCtorEq, Option.some.injEq, Int.reduceEq, Int.reduceNe, Int.reduceLT, Int.reduceLE, Int.reduceNeg, Int.reduceAdd, Int.reduceSub, Int.reduceMul, Nat.reduceEqDiff, Nat.reduceAdd, Nat.reduceMul, Int.reduceToNat, ↓reduceIte]
  · rw [if_neg (by omega), show k.toNat = q by omega] at kk
    have hlv := hw.2.2.2.2 q hqn
    obtain ⟨wl, el⟩ := word_len hlv
    have wV' := word_V hlv
    have eV' := wend_V hlv
    refine cc_within (fun y => ?_) (fun y => ?_) <;> simp only [kI_some, kL_some, kR_some, kV_none, ne_eq, not_true_eq_false, not_false_eq_true, true_implies, false_implies, implies_true, true_and, and_true, ab_z01, or_true, true_or, reduceCtorEq, Option.some.injEq, Int.reduceEq, Int.reduceNe, Int.reduceLT, Int.reduceLE, Int.reduceNeg, Int.reduceAdd, Int.reduceSub, Int.reduceMul, Nat.reduceEqDiff, Nat.reduceAdd, Nat.reduceMul, Int.reduceToNat, ↓reduceIte]
    · rw [if_neg (by omega)] at kk
      refine ⟨fun x => ?_, fun x => ?_⟩
      · rw [show 2 + j.toNat = 3 by omega, if_pos (show j = 1 by omega)] at kk
        refine gL_i hb rfl (cc_soundAt eV' ?_)
        simp only [kI_some, kL_some, kR_some, kV_none, ne_eq, not_true_eq_false, not_false_eq_true, true_implies, false_implies, implies_true, true_and, and_true, ab_z01, or_true, true_or, reduceCtorEq, Option.some.injEq, Int.reduceEq, Int.reduceNe, Int.reduceLT, Int.reduceLE, Int.reduceNeg, Int.reduceAdd, Int.reduceSub, Int.reduceMul, Nat.reduceEqDiff, Nat.reduceAdd, Nat.reduceMul, Int.reduceToNat, ↓reduceIte]
        unfold sAt
        by_cases z : 0 ≤ i ∧ i < ((wend w q).length : Int)
        · rw [if_neg (by omega)] at kk
          have := eV'.2 i.toNat (by omega)
          rw [if_pos z, wen_at (by omega)]
          rw [wen_at (by omega)] at this
          exact ⟨fun _ => kk, fun z => absurd (by omega) z⟩
        · rw [if_pos (by omega)] at kk
          rw [if_neg z]
          exact ⟨fun z => absurd rfl z, fun _ => kk⟩
      · rw [show 2 + j.toNat = 2 by omega, if_neg (show ¬ j = 1 by omega)] at kk
        refine gL_i hb rfl (cc_soundAt wV' ?_)
        simp only [kI_some, kL_some, kR_some, kV_none, ne_eq, not_true_eq_false, not_false_eq_true, true_implies, false_implies, implies_true, true_and, and_true, ab_z01, or_true, true_or, reduceCtorEq, Option.some.injEq, Int.reduceEq, Int.reduceNe, Int.reduceLT, Int.reduceLE, Int.reduceNeg, Int.reduceAdd, Int.reduceSub, Int.reduceMul, Nat.reduceEqDiff, Nat.reduceAdd, Nat.reduceMul, Int.reduceToNat, ↓reduceIte]
        unfold sAt
        by_cases z : 0 ≤ i ∧ i < ((word w q).length : Int)
        · rw [if_neg (by omega)] at kk
          have := wV'.2 i.toNat (by omega)
          rw [if_pos z, wrd_at (by omega)]
          rw [wrd_at (by omega)] at this
          exact ⟨fun _ => kk, fun z => absurd (by omega) z⟩
        · rw [if_pos (by omega)] at kk
          rw [if_neg z]
          exact ⟨fun z => absurd rfl z, fun _ => kk⟩
    · rw [if_pos (by omega)] at kk
      exact kk
  · rw [if_pos z] at kk
    exact kk
theorem wAt_win {F : Nat → Bool} {A : Nat → Int} {n : Nat} {q : Int} (hF : ∀ d, 99 < d → F d = false) (hn : n = sN F 100) (h17 : n ≤ 17) (hA : ∀ j, j < n → A j = winB F j) : wAt (n : Int) A q = if q < 0 then -1 else winB F q.toNat := by
  unfold wAt
  by_cases c : q < 0
  · rw [if_pos c, if_neg (by omega)]
  · rw [if_neg c]
    by_cases c2 : q.toNat < n
    · rw [if_pos (by omega), hA _ c2]
    · rw [if_neg (by omega), (winB_ne hF).mpr (by omega)]
set_option maxRecDepth 100000 in
set_option maxHeartbeats 4000000 in
theorem cp_window {d : Nat} {h : AbH} {K : Option AbV → AbH → Prop} {A : Nat → Nat} {M : Nat → Prop} {w : Nat → Int} {u : Nat} {pr : Nat → Nat → Int} {kv : Nat → Option (Nat → Int)} {T : Nat → Int} {L : Nat} (c : CS A M h w u pr kv T L) {k q j : Int} (kk : ∀ h1, CS A M h1 w u pr kv T L → Xt (QA A) h h1 → K (some (vI (qWin w k q j))) h1) : Vm (d + 6) m_X9_window [vR (some (A 0)), vI k, vI q, vI j] h K := by
  obtain ⟨nw, o1, cw, hdg⟩ := c.2.1
  obtain ⟨hw, al, ao, af, ae, g1, g2, ff, fl, cx, -⟩ := id cw
  obtain ⟨n1, n2⟩ := hw.now
  obtain ⟨n, F, G, wn⟩ := c.2.2.2.2.2.1
  unfold qWin at kk
  refine Vm.intro rfl (Nat.le_of_ble_eq_true rfl) (fun _ => B_X9_window_0 ?_)
  refine gR_i o1 rfl (cv_i cx.1 (cc_loanAt hw cx (fun p hp hpn b _ hb hbP => ?_) (fun z => ?_))) <;> simp only [kI_some, kL_some, kR_some, kV_none, ne_eq, not_true_eq_false, not_false_eq_true, true_implies, false_implies, implies_true, true_and, and_true, ab_z01, or_true, true_or, reduceCtorEq, Option.some.injEq, Int.reduceEq, Int.reduceNe, Int.reduceLT, Int.reduceLE, Int.reduceNeg, Int.reduceAdd, Int.reduceSub, Int.reduceMul, Nat.reduceEqDiff, Nat.reduceAdd, Nat.reduceMul, Int.reduceToNat, ↓reduceIte]
  · rw [if_neg (by omega), show k.toNat = p by omega] at kk
    refine gR_i o1 rfl (gR_i o1 rfl (cv_i wn.1 (cp_wof c o1 cw hpn hb hbP (fun h1 c1 x1 wo o1' => ?_))))
    simp only [kI_some, kL_some, kR_some, kV_none, ne_eq, not_true_eq_false, not_false_eq_true, true_implies, false_implies, implies_true, true_and, and_true, ab_z01, or_true, true_or, reduceCtorEq, Option.some.injEq, Int.reduceEq, Int.reduceNe, Int.reduceLT, Int.reduceLE, Int.reduceNeg, Int.reduceAdd, Int.reduceSub, Int.reduceMul, Nat.reduceEqDiff, Nat.reduceAdd, Nat.reduceMul, Int.reduceToNat, ↓reduceIte]
    have kk := kk h1 c1 x1
    obtain ⟨n', A', B', wn1, e1, e2, e3, e4⟩ := wo
    have eA := wAt_win (q := q) (F := fitW w p) (fun d hd => fit_100 hd) e1 e2 (fun j hj => (e3 j hj).1)
    refine cv_i wn1.1 (cc_wfirst wn1 (by omega) ?_)
    simp only [kI_some, kL_some, kR_some, kV_none, ne_eq, not_true_eq_false, not_false_eq_true, true_implies, false_implies, implies_true, true_and, and_true, ab_z01, or_true, true_or, reduceCtorEq, Option.some.injEq, Int.reduceEq, Int.reduceNe, Int.reduceLT, Int.reduceLE, Int.reduceNeg, Int.reduceAdd, Int.reduceSub, Int.reduceMul, Nat.reduceEqDiff, Nat.reduceAdd, Nat.reduceMul, Int.reduceToNat, ↓reduceIte]
    rw [eA]
    by_cases q0 : q < 0
    · rw [if_pos q0] at kk ⊢
      exact ⟨fun z => absurd rfl z, fun _ => kk⟩
    · rw [if_neg q0] at kk ⊢
      refine ⟨fun z => ?_, fun z => ?_⟩
      · rw [if_neg z] at kk
        refine cc_within (fun y => ?_) (fun y => ?_) <;> simp only [kI_some, kL_some, kR_some, kV_none, ne_eq, not_true_eq_false, not_false_eq_true, true_implies, false_implies, implies_true, true_and, and_true, ab_z01, or_true, true_or, reduceCtorEq, Option.some.injEq, Int.reduceEq, Int.reduceNe, Int.reduceLT, Int.reduceLE, Int.reduceNeg, Int.reduceAdd, Int.reduceSub, Int.reduceMul, Nat.reduceEqDiff, Nat.reduceAdd, Nat.reduceMul, Int.reduceToNat, ↓reduceIte]
        · refine ⟨fun x => ?_, fun x => ?_⟩
          · rw [if_neg x, if_pos (by omega)] at kk
            refine gR_i o1' rfl (cv_i wn1.1 (cc_wlast wn1 (by omega) ?_))
            simp only [kI_some, kL_some, kR_some, kV_none, ne_eq, not_true_eq_false, not_false_eq_true, true_implies, false_implies, implies_true, true_and, and_true, ab_z01, or_true, true_or, reduceCtorEq, Option.some.injEq, Int.reduceEq, Int.reduceNe, Int.reduceLT, Int.reduceLE, Int.reduceNeg, Int.reduceAdd, Int.reduceSub, Int.reduceMul, Nat.reduceEqDiff, Nat.reduceAdd, Nat.reduceMul, Int.reduceToNat, ↓reduceIte]
            have hlt : q.toNat < n' := by
              apply Classical.byContradiction
              intro y2
              exact z ((winB_ne (F := fitW w p) (fun d hd => fit_100 hd)).mpr (by omega))
            have : wAt (n' : Int) B' q = winE (fitW w p) q.toNat := by
              unfold wAt
              rw [if_pos (by omega), (e3 _ hlt).2]
            rw [this]
            exact kk
          · rw [if_pos (Classical.byContradiction x)] at kk
            exact kk
        · rw [if_neg (by omega), if_neg (by omega)] at kk
          exact kk
      · rw [if_pos (Classical.byContradiction z)] at kk
        exact kk
  · rw [if_pos z] at kk
    exact kk h c Xt.rf
set_option maxRecDepth 100000 in
set_option maxHeartbeats 4000000 in
theorem cc_soundOrNumber {d : Nat} {h : AbH} {K : Option AbV → AbH → Prop} {l : List Int} {i : Int} (hl : fV l) (kk : K (some (vI (fAt l i))) h) : Vm (d + 3) m_X9_soundOrNumber [vL (enc l : Int), vI i] h K := by
  unfold fAt at kk
  refine Vm.intro rfl (Nat.le_of_ble_eq_true rfl) (fun _ => B_X9_soundOrNumber_0 ?_)
  refine ⟨fun q => ?_, fun q => ?_⟩
  · rw [if_neg q] at kk
    refine cc_soundAt hl ?_
    simp only [kI_some, kL_some, kR_some, kV_none, ne_eq, not_true_eq_false, not_false_eq_true, true_implies, false_implies, implies_true, true_and, and_true, ab_z01, or_true, true_or, reduceCtorEq, Option.some.injEq, Int.reduceEq, Int.reduceNe, Int.reduceLT, Int.reduceLE, Int.reduceNeg, Int.reduceAdd, Int.reduceSub, Int.reduceMul, Nat.reduceEqDiff, Nat.reduceAdd, Nat.reduceMul, Int.reduceToNat, ↓reduceIte]
    unfold sAt
    by_cases z : 0 ≤ i ∧ i < (l.length : Int)
    · rw [if_neg (fun y => y z)] at kk
      have := hl.2 i.toNat (by omega)
      rw [if_pos z]
      exact ⟨fun _ => kk, fun z => absurd (by omega) z⟩
    · rw [if_pos z] at kk
      rw [if_neg z]
      exact ⟨fun z => absurd rfl z, fun _ => kk⟩
  · rw [if_pos (Classical.byContradiction q)] at kk
    refine cc_length hl ?_
    simp only [kI_some, kL_some, kR_some, kV_none, ne_eq, not_true_eq_false, not_false_eq_true, true_implies, false_implies, implies_true, true_and, and_true, ab_z01, or_true, true_or, reduceCtorEq, Option.some.injEq, Int.reduceEq, Int.reduceNe, Int.reduceLT, Int.reduceLE, Int.reduceNeg, Int.reduceAdd, Int.reduceSub, Int.reduceMul, Nat.reduceEqDiff, Nat.reduceAdd, Nat.reduceMul, Int.reduceToNat, ↓reduceIte]
    exact kk
set_option maxRecDepth 100000 in
set_option maxHeartbeats 4000000 in
theorem cp_taken {d : Nat} {h : AbH} {K : Option AbV → AbH → Prop} {A : Nat → Nat} {M : Nat → Prop} {w : Nat → Int} {u : Nat} {pr : Nat → Nat → Int} {kv : Nat → Option (Nat → Int)} {T : Nat → Int} {L : Nat} (c : CS A M h w u pr kv T L) {k dd i : Int} (kk : ∀ h1, CS A M h1 w u pr kv T L → Xt (QA A) h h1 → K (some (vI (qTaken w k dd i))) h1) : Vm (d + 5) m_X9_taken [vR (some (A 0)), vI k, vI dd, vI i] h K := by
  have kk := kk h c Xt.rf
  obtain ⟨nw, o1, cw, hdg⟩ := c.2.1
  obtain ⟨hw, al, ao, af, ae, g1, g2, ff, fl, cx, -⟩ := id cw
  obtain ⟨n1, n2⟩ := hw.now
  unfold qTaken at kk
  refine Vm.intro rfl (Nat.le_of_ble_eq_true rfl) (fun _ => B_X9_taken_0 ?_)
  refine gR_i o1 rfl (cv_i cx.1 (cc_loanAt hw cx (fun p hp hpn b _ hb hbP => ?_) (fun z => ?_))) <;> simp only [kI_some, kL_some, kR_some, kV_none, ne_eq, not_true_eq_false, not_false_eq_true, true_implies, false_implies, implies_true, true_and, and_true, ab_z01, or_true, true_or, reduceCtorEq, Option.some.injEq, Int.reduceEq, Int.reduceNe, Int.reduceLT, Int.reduceLE, Int.reduceNeg, Int.reduceAdd, Int.reduceSub, Int.reduceMul, Nat.reduceEqDiff, Nat.reduceAdd, Nat.reduceMul, Int.reduceToNat, ↓reduceIte]
  · rw [if_neg (by omega), show k.toNat = p by omega] at kk
    have hlv := hw.2.2.2.2 p hpn
    refine cc_isDate (fun y => ?_) (fun y => ?_) <;> simp only [kI_some, kL_some, kR_some, kV_none, ne_eq, not_true_eq_false, not_false_eq_true, true_implies, false_implies, implies_true, true_and, and_true, ab_z01, or_true, true_or, reduceCtorEq, Option.some.injEq, Int.reduceEq, Int.reduceNe, Int.reduceLT, Int.reduceLE, Int.reduceNeg, Int.reduceAdd, Int.reduceSub, Int.reduceMul, Nat.reduceEqDiff, Nat.reduceAdd, Nat.reduceMul, Int.reduceToNat, ↓reduceIte]
    · rw [if_neg (fun z => z y)] at kk
      refine gR_i o1 rfl (gL_i hb rfl (gI_i hb rfl (gI_i hb rfl (cv_i cx.1 (cc_borrowed hw cx (word_V hlv) ?_)))))
      simp only [kI_some, kL_some, kR_some, kV_none, ne_eq, not_true_eq_false, not_false_eq_true, true_implies, false_implies, implies_true, true_and, and_true, ab_z01, or_true, true_or, reduceCtorEq, Option.some.injEq, Int.reduceEq, Int.reduceNe, Int.reduceLT, Int.reduceLE, Int.reduceNeg, Int.reduceAdd, Int.reduceSub, Int.reduceMul, Nat.reduceEqDiff, Nat.reduceAdd, Nat.reduceMul, Int.reduceToNat, ↓reduceIte]
      refine cc_soundOrNumber (borr_V hw.L (word_V hlv)) ?_
      simp only [kI_some, kL_some, kR_some, kV_none, ne_eq, not_true_eq_false, not_false_eq_true, true_implies, false_implies, implies_true, true_and, and_true, ab_z01, or_true, true_or, reduceCtorEq, Option.some.injEq, Int.reduceEq, Int.reduceNe, Int.reduceLT, Int.reduceLE, Int.reduceNeg, Int.reduceAdd, Int.reduceSub, Int.reduceMul, Nat.reduceEqDiff, Nat.reduceAdd, Nat.reduceMul, Int.reduceToNat, ↓reduceIte]
      exact kk
    · rw [if_pos y] at kk
      exact kk
  · rw [if_pos z] at kk
    exact kk
set_option maxRecDepth 100000 in
set_option maxHeartbeats 4000000 in
theorem cp_gone {d : Nat} {h : AbH} {K : Option AbV → AbH → Prop} {A : Nat → Nat} {M : Nat → Prop} {w : Nat → Int} {u : Nat} {pr : Nat → Nat → Int} {kv : Nat → Option (Nat → Int)} {T : Nat → Int} {L : Nat} (c : CS A M h w u pr kv T L) {k t a b i : Int} (kk : ∀ h1, CS A M h1 w u pr kv T L → Xt (QA A) h h1 → K (some (vI (qGone w k t a b i))) h1) : Vm (d + 4) m_X9_gone [vR (some (A 0)), vI k, vI t, vI a, vI b, vI i] h K := by
  have kk := kk h c Xt.rf
  obtain ⟨nw, o1, cw, hdg⟩ := c.2.1
  obtain ⟨hw, al, ao, af, ae, g1, g2, ff, fl, cx, -⟩ := id cw
  obtain ⟨n1, n2⟩ := hw.now
  unfold qGone at kk
  refine Vm.intro rfl (Nat.le_of_ble_eq_true rfl) (fun _ => B_X9_gone_0 ?_)
  refine gR_i o1 rfl (cv_i cx.1 (cc_loanAt hw cx (fun p hp hpn b' _ hb hbP => ?_) (fun z => ?_))) <;> simp only [kI_some, kL_some, kR_some, kV_none, ne_eq, not_true_eq_false, not_false_eq_true, true_implies, false_implies, implies_true, true_and, and_true, ab_z01, or_true, true_or, reduceCtorEq, Option.some.injEq, Int.reduceEq, Int.reduceNe, Int.reduceLT, Int.reduceLE, Int.reduceNeg, Int.reduceAdd, Int.reduceSub, Int.reduceMul, Nat.reduceEqDiff, Nat.reduceAdd, Nat.reduceMul, Int.reduceToNat, ↓reduceIte]
  · rw [if_neg (by omega), show k.toNat = p by omega] at kk
    have hlv := hw.2.2.2.2 p hpn
    refine cc_isTongue (fun y => ?_) (fun y => ?_) <;> simp only [kI_some, kL_some, kR_some, kV_none, ne_eq, not_true_eq_false, not_false_eq_true, true_implies, false_implies, implies_true, true_and, and_true, ab_z01, or_true, true_or, reduceCtorEq, Option.some.injEq, Int.reduceEq, Int.reduceNe, Int.reduceLT, Int.reduceLE, Int.reduceNeg, Int.reduceAdd, Int.reduceSub, Int.reduceMul, Nat.reduceEqDiff, Nat.reduceAdd, Nat.reduceMul, Int.reduceToNat, ↓reduceIte]
    · have y1 := y.1
      have y2 := y.2
      rw [if_neg (by omega)] at kk
      refine cc_isDate (fun ya => ?_) (fun ya => ?_) <;> simp only [kI_some, kL_some, kR_some, kV_none, ne_eq, not_true_eq_false, not_false_eq_true, true_implies, false_implies, implies_true, true_and, and_true, ab_z01, or_true, true_or, reduceCtorEq, Option.some.injEq, Int.reduceEq, Int.reduceNe, Int.reduceLT, Int.reduceLE, Int.reduceNeg, Int.reduceAdd, Int.reduceSub, Int.reduceMul, Nat.reduceEqDiff, Nat.reduceAdd, Nat.reduceMul, Int.reduceToNat, ↓reduceIte]
      · refine cc_isDate (fun yb => ?_) (fun yb => ?_) <;> simp only [kI_some, kL_some, kR_some, kV_none, ne_eq, not_true_eq_false, not_false_eq_true, true_implies, false_implies, implies_true, true_and, and_true, ab_z01, or_true, true_or, reduceCtorEq, Option.some.injEq, Int.reduceEq, Int.reduceNe, Int.reduceLT, Int.reduceLE, Int.reduceNeg, Int.reduceAdd, Int.reduceSub, Int.reduceMul, Nat.reduceEqDiff, Nat.reduceAdd, Nat.reduceMul, Int.reduceToNat, ↓reduceIte]
        · rw [if_neg (fun z => z ⟨ya, yb⟩)] at kk
          refine gR_i o1 rfl (gL_i hb rfl (cv_i cx.1 (cc_developed hw cx (word_V hlv) ?_)))
          simp only [kI_some, kL_some, kR_some, kV_none, ne_eq, not_true_eq_false, not_false_eq_true, true_implies, false_implies, implies_true, true_and, and_true, ab_z01, or_true, true_or, reduceCtorEq, Option.some.injEq, Int.reduceEq, Int.reduceNe, Int.reduceLT, Int.reduceLE, Int.reduceNeg, Int.reduceAdd, Int.reduceSub, Int.reduceMul, Nat.reduceEqDiff, Nat.reduceAdd, Nat.reduceMul, Int.reduceToNat, ↓reduceIte]
          refine cc_soundOrNumber (dev_V hw.L (word_V hlv)) ?_
          simp only [kI_some, kL_some, kR_some, kV_none, ne_eq, not_true_eq_false, not_false_eq_true, true_implies, false_implies, implies_true, true_and, and_true, ab_z01, or_true, true_or, reduceCtorEq, Option.some.injEq, Int.reduceEq, Int.reduceNe, Int.reduceLT, Int.reduceLE, Int.reduceNeg, Int.reduceAdd, Int.reduceSub, Int.reduceMul, Nat.reduceEqDiff, Nat.reduceAdd, Nat.reduceMul, Int.reduceToNat, ↓reduceIte]
          exact kk
        · rw [if_pos (fun z => yb z.2)] at kk
          exact kk
      · rw [if_pos (fun z => ya z.1)] at kk
        exact kk
    · rw [if_pos (fun z => y ⟨by omega, by omega⟩)] at kk
      exact kk
  · rw [if_pos z] at kk
    exact kk
