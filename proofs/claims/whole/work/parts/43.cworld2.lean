set_option maxRecDepth 100000 in
set_option maxHeartbeats 4000000 in
theorem cc_hasLaw {d : Nat} {h : AbH} {K : Option AbV → AbH → Prop} {P : Nat → Prop} {a : Nat} {w : Nat → Int} {al ao af ae : Nat} {g1 g2 : Nat → Option Nat} {ff fl : Nat → Int} {t dd : Int} (hw : wV w) (c : CX P h a w al ao af ae g1 g2 ff fl) (kk : K (some (vI (b2i (hasL w t dd (nl w))))) h) : Vm (d + 1) m_X8_hasLaw [vR (some a), vI t, vI dd] h K := by
  obtain ⟨n1, n2⟩ := hw.nlw
  obtain ⟨c1, c2, c3, c4, c5, c6, c7, c8⟩ := c
  refine Vm.intro rfl (Nat.le_of_ble_eq_true rfl) (fun _ => B_X8_hasLaw_0 ?_)
  refine gR_i c1 rfl (nR_i c2 ?_)
  refine lp_up (P := fun i => (∀ k, k < i → k < nl w → ¬ (lw w k 0 = t ∧ lw w k 1 = dd)) → Vx (d + 1) m_X8_hasLaw 0 0 12 [some (vR (some a)), some (vI t), some (vI dd), some (vR (some al)), some (vI 16), some (vI (i : Int)), none] [] h K) (n := 16) ?_ ?_ 0 (by omega) (fun k hk => absurd hk (by omega))
  · intro hn
    refine B_X8_hasLaw_12 ⟨fun _ => ?_, fun z => absurd (by decide) z⟩
    rw [b2i_f (fun z => by obtain ⟨i, hi, q⟩ := (hasL_iff _).mp z; exact hn i (by omega) hi q)] at kk
    exact kk
  · intro i hi ih hn
    refine B_X8_hasLaw_12 ⟨fun z => absurd z (by omega), fun _ => ?_⟩
    refine lR_i c2 (by omega) (by omega) ?_
    rw [Int.toNat_natCast]
    by_cases z : i < nl w
    · obtain ⟨b, b1, b2, b3⟩ := (c6 i hi).1 z
      rw [b1]
      refine ⟨fun q => absurd q (by simp), fun _ => ?_⟩
      have nxt : ¬ (lw w i 0 = t ∧ lw w i 1 = dd) → in32 ((i : Int) + 1) ∧ Vx (d + 1) m_X8_hasLaw 0 0 12 [some (vR (some a)), some (vI t), some (vI dd), some (vR (some al)), some (vI 16), some (vI ((i : Int) + 1)), none] [] h K := fun q => ⟨i3 (by omega) (by omega), ih (fun k hk hk2 => by
        by_cases e : k = i
        · rw [e]; exact q
        · exact hn k (by omega) hk2)⟩
      refine gI_i b3 rfl ⟨fun q => nxt (fun y => q y.1), fun q => ?_⟩
      refine gI_i b3 rfl ⟨fun q2 => nxt (fun y => q2 y.2), fun q2 => ?_⟩
      rw [b2i_t ((hasL_iff _).mpr ⟨i, z, Classical.byContradiction q, Classical.byContradiction q2⟩)] at kk
      exact kk
    · rw [(c6 i hi).2 z]
      refine ⟨fun _ => ⟨i3 (by omega) (by omega), ih (fun k hk hk2 => hn k (by omega) hk2)⟩, fun q => absurd rfl q⟩
theorem cntN_cut {p : Nat → Bool} {n : Nat} : ∀ m, n ≤ m → (∀ i, n ≤ i → i < m → ¬ p i = true) → cntN p m = cntN p n
  | 0, h, _ => by rw [show n = 0 by omega]
  | m + 1, h, hp => by
    by_cases e : n = m + 1
    · rw [e]
    · show cntN p m + (if p m = true then 1 else 0) = cntN p n
      rw [if_neg (hp m (by omega) (by omega)), cntN_cut m (by omega) (fun i h1 h2 => hp i h1 (by omega))]
      rfl
set_option maxRecDepth 100000 in
set_option maxHeartbeats 4000000 in
theorem cc_lawsOf {d : Nat} {h : AbH} {K : Option AbV → AbH → Prop} {P : Nat → Prop} {a : Nat} {w : Nat → Int} {al ao af ae : Nat} {g1 g2 : Nat → Option Nat} {ff fl : Nat → Int} {t : Int} (hw : wV w) (c : CX P h a w al ao af ae g1 g2 ff fl) (kk : K (some (vI (cntN (fun i => decide (lw w i 0 = t)) (nl w) : Int))) h) : Vm (d + 1) m_X8_lawsOf [vR (some a), vI t] h K := by
  obtain ⟨n1, n2⟩ := hw.nlw
  obtain ⟨c1, c2, c3, c4, c5, c6, c7, c8⟩ := c
  have hcut := cntN_cut (p := fun i => decide (lw w i 0 = t) && decide (i < nl w)) (n := nl w) 16 n2 (fun i h1 h2 z => by
    rw [Bool.and_eq_true] at z
    have := of_decide_eq_true z.2
    omega)
  have hlow : ∀ n, n ≤ nl w → cntN (fun i => decide (lw w i 0 = t) && decide (i < nl w)) n = cntN (fun i => decide (lw w i 0 = t)) n := by
    intro n
    induction n with
    | zero => intro _; rfl
    | succ n ih =>
      intro hn
      have := ih (by omega)
      unfold cntN
      rw [this]
      have e : decide (n < nl w) = true := decide_eq_true (by omega)
      rw [e, Bool.and_true]
  rw [← hlow _ (Nat.le_refl _), ← hcut] at kk
  refine Vm.intro rfl (Nat.le_of_ble_eq_true rfl) (fun _ => B_X8_lawsOf_0 ?_)
  refine gR_i c1 rfl (nR_i c2 ?_)
  refine lp_up (P := fun i => Vx (d + 1) m_X8_lawsOf 0 0 14 [some (vR (some a)), some (vI t), some (vI (cntN (fun i => decide (lw w i 0 = t) && decide (i < nl w)) i : Int)), some (vR (some al)), some (vI 16), some (vI (i : Int)), none] [] h K) (n := 16) ?_ ?_ 0 (by omega)
  · exact B_X8_lawsOf_14 ⟨fun _ => kk, fun z => absurd (by decide) z⟩
  · intro i hi ih
    have hle := cntN_le (fun i => decide (lw w i 0 = t) && decide (i < nl w)) i
    have hs : cntN (fun i => decide (lw w i 0 = t) && decide (i < nl w)) (i + 1) = cntN (fun i => decide (lw w i 0 = t) && decide (i < nl w)) i + (if (decide (lw w i 0 = t) && decide (i < nl w)) = true then 1 else 0) := rfl
    rw [hs] at ih
    refine B_X8_lawsOf_14 ⟨fun z => absurd z (by omega), fun _ => ?_⟩
    refine lR_i c2 (by omega) (by omega) ?_
    rw [Int.toNat_natCast]
    by_cases z : i < nl w
    · obtain ⟨b, b1, b2, b3⟩ := (c6 i hi).1 z
      rw [b1]
      refine ⟨fun q => absurd q (by simp), fun _ => ?_⟩
      refine gI_i b3 rfl ⟨fun q => ⟨i3 (by omega) (by omega), ?_⟩, fun q => ⟨i3 (by omega) (by omega), i3 (by omega) (by omega), ?_⟩⟩
      · rw [if_neg (by rw [decide_eq_false q, Bool.false_and]; decide), Nat.add_zero] at ih
        exact ih
      · rw [if_pos (by rw [decide_eq_true (Classical.byContradiction q), decide_eq_true z]; rfl)] at ih
        exact ih
    · rw [(c6 i hi).2 z]
      rw [if_neg (by rw [decide_eq_false z, Bool.and_false]; decide), Nat.add_zero] at ih
      exact ⟨fun _ => ⟨i3 (by omega) (by omega), ih⟩, fun q => absurd rfl q⟩
set_option maxRecDepth 100000 in
set_option maxHeartbeats 4000000 in
theorem cc_meetings {d : Nat} {h : AbH} {K : Option AbV → AbH → Prop} {P : Nat → Prop} {a : Nat} {w : Nat → Int} {al ao af ae : Nat} {g1 g2 : Nat → Option Nat} {ff fl : Nat → Int} (hw : wV w) (c : CX P h a w al ao af ae g1 g2 ff fl) (kk : K (some (vI (mtN w 16))) h) : Vm (d + 1) m_X8_meetings [vR (some a)] h K := by
  obtain ⟨c1, c2, c3, c4, c5, c6, c7, c8⟩ := c
  refine Vm.intro rfl (Nat.le_of_ble_eq_true rfl) (fun _ => B_X8_meetings_0 ?_)
  refine gR_i c1 rfl (nI_i c4 ?_)
  refine lp_up (P := fun i => Vx (d + 1) m_X8_meetings 0 0 13 [some (vR (some a)), some (vI (mtN w i)), some (vR (some af)), some (vI 16), some (vI (i : Int)), none] [] h K) (n := 16) ?_ ?_ 0 (by omega)
  · exact B_X8_meetings_13 ⟨fun _ => kk, fun z => absurd (by decide) z⟩
  · intro i hi ih
    have hle := mtN_le w i
    have hm := hw.met (98 + 2 * i) (by omega) (by omega)
    have hs : mtN w (i + 1) = mtN w i + (if w (98 + 2 * i) ≤ 0 then 0 else 1) := rfl
    rw [hs] at ih
    refine B_X8_meetings_13 ⟨fun z => absurd z (by omega), fun _ => ?_⟩
    refine lI_i c4 (by omega) (by omega) ?_
    rw [Int.toNat_natCast, (c8 i hi).1]
    refine ⟨fun q => ⟨i3 (by omega) (by omega), ?_⟩, fun q => ⟨i3 (by omega) (by omega), i3 (by omega) (by omega), ?_⟩⟩
    · rw [if_pos (by omega), Int.add_zero] at ih
      exact ih
    · rw [if_neg (by omega)] at ih
      exact ih
set_option maxRecDepth 100000 in
set_option maxHeartbeats 4000000 in
theorem cc_developed {d : Nat} {h : AbH} {K : Option AbV → AbH → Prop} {P : Nat → Prop} {a : Nat} {w : Nat → Int} {al ao af ae : Nat} {g1 g2 : Nat → Option Nat} {ff fl : Nat → Int} {l : List Int} {t d1 d2 : Int} (hw : wV w) (c : CX P h a w al ao af ae g1 g2 ff fl) (hl : fV l) (kk : K (some (vL (enc (dev w t d1 d2 l) : Int))) h) : Vm (d + 3) m_X8_developed [vR (some a), vL (enc l : Int), vI t, vI d1, vI d2] h K := by
  obtain ⟨n1, n2⟩ := hw.nlw
  obtain ⟨c1, c2, c3, c4, c5, c6, c7, c8⟩ := c
  refine Vm.intro rfl (Nat.le_of_ble_eq_true rfl) (fun _ => B_X8_developed_0 ?_)
  refine gR_i c1 rfl (nR_i c2 ?_)
  have tail : ∀ i, i ≤ 16 → nl w ≤ i → Vx (d + 3) m_X8_developed 0 0 17 [some (vR (some a)), some (vL (enc l : Int)), none, some (vI t), some (vI d1), some (vI d2), some (vL (enc (devN w t d1 d2 l (nl w)) : Int)), none, some (vR (some al)), some (vI 16), some (vI (i : Int)), none] [] h K := by
    refine lp_up (P := fun i => nl w ≤ i → Vx (d + 3) m_X8_developed 0 0 17 [some (vR (some a)), some (vL (enc l : Int)), none, some (vI t), some (vI d1), some (vI d2), some (vL (enc (devN w t d1 d2 l (nl w)) : Int)), none, some (vR (some al)), some (vI 16), some (vI (i : Int)), none] [] h K) (n := 16) ?_ ?_
    · intro _
      exact B_X8_developed_17 ⟨fun _ => kk, fun z => absurd (by decide) z⟩
    · intro i hi ih hn
      refine B_X8_developed_17 ⟨fun z => absurd z (by omega), fun _ => ?_⟩
      refine lR_i c2 (by omega) (by omega) ?_
      rw [Int.toNat_natCast, (c6 i hi).2 (by omega)]
      exact ⟨fun _ => ⟨i3 (by omega) (by omega), ih (by omega)⟩, fun q => absurd rfl q⟩
  refine lp_up (P := fun i => Vx (d + 3) m_X8_developed 0 0 17 [some (vR (some a)), some (vL (enc l : Int)), none, some (vI t), some (vI d1), some (vI d2), some (vL (enc (devN w t d1 d2 l i) : Int)), none, some (vR (some al)), some (vI 16), some (vI (i : Int)), none] [] h K) (n := nl w) (tail _ n2 (Nat.le_refl _)) ?_ 0 (by omega)
  intro i hi ih
  refine B_X8_developed_17 ⟨fun z => absurd z (by omega), fun _ => ?_⟩
  refine lR_i c2 (by omega) (by omega) ?_
  obtain ⟨b, b1, b2, b3⟩ := (c6 i (by omega)).1 hi
  rw [Int.toNat_natCast, b1]
  refine ⟨fun q => absurd q (by simp), fun _ => ?_⟩
  have hs : devN w t d1 d2 l (i + 1) = if lw w i 0 = t ∧ d1 < lw w i 1 ∧ lw w i 1 ≤ d2 then ap w i (devN w t d1 d2 l i) else devN w t d1 d2 l i := rfl
  rw [hs] at ih
  have nxt : ¬ (lw w i 0 = t ∧ d1 < lw w i 1 ∧ lw w i 1 ≤ d2) → in32 ((i : Int) + 1) ∧ Vx (d + 3) m_X8_developed 0 0 17 [some (vR (some a)), some (vL (enc l : Int)), none, some (vI t), some (vI d1), some (vI d2), some (vL (enc (devN w t d1 d2 l i) : Int)), none, some (vR (some al)), some (vI 16), some (vI ((i : Int) + 1)), none] [] h K := fun q => ⟨i3 (by omega) (by omega), by rw [if_neg q] at ih; exact ih⟩
  refine gI_i b3 rfl ⟨fun q => nxt (fun y => q y.1), fun q => ?_⟩
  refine gI_i b3 rfl ⟨fun q2 => nxt (fun y => by omega), fun q2 => ?_⟩
  refine gI_i b3 rfl ⟨fun q3 => nxt (fun y => by omega), fun q3 => ?_⟩
  refine cv_i b3 ?_
  refine cc_applied (hw.2.1 i hi) b3 (devN_V hw.L hl i (by omega)) ?_
  simp only [kI_some, kL_some, kR_some, kV_none, ne_eq, not_true_eq_false, not_false_eq_true, true_implies, false_implies, implies_true, true_and, and_true, ab_z01, or_true, true_or, reduceCtorEq, Option.some.injEq, Int.reduceEq, Int.reduceNe, Int.reduceLT, Int.reduceLE, Int.reduceNeg, Int.reduceAdd, Int.reduceSub, Int.reduceMul, Nat.reduceEqDiff, Nat.reduceAdd, Nat.reduceMul, Int.reduceToNat, ↓reduceIte]
  rw [if_pos ⟨Classical.byContradiction q, by omega, by omega⟩] at ih
  exact ⟨i3 (by omega) (by omega), ih⟩
set_option maxRecDepth 100000 in
set_option maxHeartbeats 4000000 in
theorem cc_borrowed {d : Nat} {h : AbH} {K : Option AbV → AbH → Prop} {P : Nat → Prop} {a : Nat} {w : Nat → Int} {al ao af ae : Nat} {g1 g2 : Nat → Option Nat} {ff fl : Nat → Int} {l : List Int} {f t dd : Int} (hw : wV w) (c : CX P h a w al ao af ae g1 g2 ff fl) (hl : fV l) (kk : K (some (vL (enc (borr w f t dd l) : Int))) h) : Vm (d + 4) m_X8_borrowed [vR (some a), vL (enc l : Int), vI f, vI t, vI dd] h K := by
  have c1 := c.1
  refine Vm.intro rfl (Nat.le_of_ble_eq_true rfl) (fun _ => B_X8_borrowed_0 ?_)
  refine cv_i c1 (cc_developed hw c hl ?_)
  simp only [kI_some, kL_some, kR_some, kV_none, ne_eq, not_true_eq_false, not_false_eq_true, true_implies, false_implies, implies_true, true_and, and_true, ab_z01, or_true, true_or, reduceCtorEq, Option.some.injEq, Int.reduceEq, Int.reduceNe, Int.reduceLT, Int.reduceLE, Int.reduceNeg, Int.reduceAdd, Int.reduceSub, Int.reduceMul, Nat.reduceEqDiff, Nat.reduceAdd, Nat.reduceMul, Int.reduceToNat, ↓reduceIte]
  refine cv_i c1 (cc_developed hw c (dev_V hw.L hl) ?_)
  simp only [kI_some, kL_some, kR_some, kV_none, ne_eq, not_true_eq_false, not_false_eq_true, true_implies, false_implies, implies_true, true_and, and_true, ab_z01, or_true, true_or, reduceCtorEq, Option.some.injEq, Int.reduceEq, Int.reduceNe, Int.reduceLT, Int.reduceLE, Int.reduceNeg, Int.reduceAdd, Int.reduceSub, Int.reduceMul, Nat.reduceEqDiff, Nat.reduceAdd, Nat.reduceMul, Int.reduceToNat, ↓reduceIte]
  exact kk
