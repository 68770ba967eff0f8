/-! worlds of the class, read -/
def loF (w : Nat → Int) (k : Nat) : List AbV := [vI (lo w k 0), vI (lo w k 1), vL (enc (word w k) : Int), vL (enc (wend w k) : Int)]
def fO (w : Nat → Int) (p : Int) : Int := if 0 ≤ p ∧ p ≤ 15 then w (98 + 2 * p.toNat) - 1 else -1
def lO (w : Nat → Int) (p : Int) : Int := if 0 ≤ p ∧ p ≤ 15 then (if w (98 + 2 * p.toNat) = 0 then -1 else w (98 + 2 * p.toNat + 1)) else -1
def CX (P : Nat → Prop) (h : AbH) (a : Nat) (w : Nat → Int) (al ao af ae : Nat) (g1 g2 : Nat → Option Nat) (ff fl : Nat → Int) : Prop :=
  hpO h a = some (7, [vR (some al), vR (some ao), vR (some af), vR (some ae), vI (w 0), vI (w 1)]) ∧ hpR h al = some (0, 16, g1) ∧ hpR h ao = some (2, 12, g2) ∧ hpI h af = some (16, ff) ∧ hpI h ae = some (16, fl) ∧
  (∀ k, k < 16 → (k < nl w → ∃ b, g1 k = some b ∧ ¬ P b ∧ hpO h b = some (0, lwF w k)) ∧ (¬ k < nl w → g1 k = none)) ∧
  (∀ k, k < 12 → (k < no w → ∃ b, g2 k = some b ∧ ¬ P b ∧ hpO h b = some (2, loF w k)) ∧ (¬ k < no w → g2 k = none)) ∧
  ∀ p, p < 16 → ff p = w (98 + 2 * p) - 1 ∧ fl p = if w (98 + 2 * p) = 0 then -1 else w (98 + 2 * p + 1)
/-- the world a shows the row w, and none of its cells may change -/
def CW (P : Nat → Prop) (h : AbH) (a : Nat) (w : Nat → Int) : Prop := wV w ∧ ∃ al ao af ae g1 g2 ff fl, CX P h a w al ao af ae g1 g2 ff fl ∧ ¬ P a ∧ ¬ P al ∧ ¬ P ao ∧ ¬ P af ∧ ¬ P ae
theorem CW.mv {P : Nat → Prop} {h h' : AbH} {a : Nat} {w : Nat → Int} (c : CW P h a w) (x : Xt P h h') : CW P h' a w := by
  obtain ⟨hw, al, ao, af, ae, g1, g2, ff, fl, ⟨c1, c2, c3, c4, c5, c6, c7, c8⟩, p1, p2, p3, p4, p5⟩ := c
  refine ⟨hw, al, ao, af, ae, g1, g2, ff, fl, ⟨x.O p1 c1, x.R p2 c2, x.R p3 c3, x.I p4 c4, x.I p5 c5, fun k hk => ⟨fun z => ?_, (c6 k hk).2⟩, fun k hk => ⟨fun z => ?_, (c7 k hk).2⟩, c8⟩, p1, p2, p3, p4, p5⟩
  · obtain ⟨b, b1, b2, b3⟩ := (c6 k hk).1 z
    exact ⟨b, b1, b2, x.O b2 b3⟩
  · obtain ⟨b, b1, b2, b3⟩ := (c7 k hk).1 z
    exact ⟨b, b1, b2, x.O b2 b3⟩
theorem cc_within {d : Nat} {h : AbH} {K : Option AbV → AbH → Prop} {v a b : Int} (k1 : a ≤ v ∧ v ≤ b → K (some (vI 1)) h) (k0 : ¬ (a ≤ v ∧ v ≤ b) → K (some (vI 0)) h) : Vm (d + 1) m_X9_within [vI v, vI a, vI b] h K := by
  refine Vm.intro rfl (Nat.le_of_ble_eq_true rfl) (fun _ => B_X9_within_0 ?_)
  exact ⟨fun c => k0 (by omega), fun c => ⟨fun c2 => k0 (by omega), fun c2 => k1 (by omega)⟩⟩
theorem cc_isTongue {d : Nat} {h : AbH} {K : Option AbV → AbH → Prop} {v : Int} (k1 : tg v → K (some (vI 1)) h) (k0 : ¬ tg v → K (some (vI 0)) h) : Vm (d + 1) m_X9_isTongue [vI v] h K := by
  refine Vm.intro rfl (Nat.le_of_ble_eq_true rfl) (fun _ => B_X9_isTongue_0 ?_)
  refine ⟨fun c => k0 (fun z => ?_), fun c => ⟨fun c2 => k0 (fun z => ?_), fun c2 => k1 ⟨by omega, by omega⟩⟩⟩
  · have := z.1; omega
  · have := z.2; omega
theorem cc_isDate {d : Nat} {h : AbH} {K : Option AbV → AbH → Prop} {v : Int} (k1 : 0 ≤ v ∧ v ≤ 99 → K (some (vI 1)) h) (k0 : ¬ (0 ≤ v ∧ v ≤ 99) → K (some (vI 0)) h) : Vm (d + 2) m_X9_isDate [vI v] h K := by
  refine Vm.intro rfl (Nat.le_of_ble_eq_true rfl) (fun _ => B_X9_isDate_0 ?_)
  refine cc_within (fun c => ?_) (fun c => ?_) <;> simp only [kI_some, kL_some, kR_some, kV_none, ne_eq, not_true_eq_false, not_false_eq_true, true_implies, false_implies, implies_true, true_and, and_true, ab_z01, or_true, true_or, reduceCtorEq, Option.some.injEq, Int.reduceEq, Int.reduceNe, Int.reduceLT, Int.reduceLE, Int.reduceNeg, Int.reduceAdd, Int.reduceSub, Int.reduceMul, Nat.reduceEqDiff, Nat.reduceAdd, Nat.reduceMul, Int.reduceToNat, ↓reduceIte]
  · exact k1 c
  · exact k0 c
theorem cc_isSound {d : Nat} {h : AbH} {K : Option AbV → AbH → Prop} {v : Int} (k1 : 0 ≤ v ∧ v ≤ 25 → K (some (vI 1)) h) (k0 : ¬ (0 ≤ v ∧ v ≤ 25) → K (some (vI 0)) h) : Vm (d + 2) m_X9_isSound [vI v] h K := by
  refine Vm.intro rfl (Nat.le_of_ble_eq_true rfl) (fun _ => B_X9_isSound_0 ?_)
  refine cc_within (fun c => ?_) (fun c => ?_) <;> simp only [kI_some, kL_some, kR_some, kV_none, ne_eq, not_true_eq_false, not_false_eq_true, true_implies, false_implies, implies_true, true_and, and_true, ab_z01, or_true, true_or, reduceCtorEq, Option.some.injEq, Int.reduceEq, Int.reduceNe, Int.reduceLT, Int.reduceLE, Int.reduceNeg, Int.reduceAdd, Int.reduceSub, Int.reduceMul, Nat.reduceEqDiff, Nat.reduceAdd, Nat.reduceMul, Int.reduceToNat, ↓reduceIte]
  · exact k1 c
  · exact k0 c
theorem cc_pairOf {d : Nat} {h : AbH} {K : Option AbV → AbH → Prop} {f t : Int} (k1 : tg f ∧ tg t ∧ f ≠ t → K (some (vI (f * 4 + t))) h) (k0 : ¬ (tg f ∧ tg t ∧ f ≠ t) → K (some (vI (-1))) h) : Vm (d + 2) m_X9_pairOf [vI f, vI t] h K := by
  refine Vm.intro rfl (Nat.le_of_ble_eq_true rfl) (fun _ => B_X9_pairOf_0 ?_)
  refine cc_isTongue (fun c => ?_) (fun c => ?_) <;> simp only [kI_some, kL_some, kR_some, kV_none, ne_eq, not_true_eq_false, not_false_eq_true, true_implies, false_implies, implies_true, true_and, and_true, ab_z01, or_true, true_or, reduceCtorEq, Option.some.injEq, Int.reduceEq, Int.reduceNe, Int.reduceLT, Int.reduceLE, Int.reduceNeg, Int.reduceAdd, Int.reduceSub, Int.reduceMul, Nat.reduceEqDiff, Nat.reduceAdd, Nat.reduceMul, Int.reduceToNat, ↓reduceIte]
  · refine cc_isTongue (fun c1 => ?_) (fun c1 => ?_) <;> simp only [kI_some, kL_some, kR_some, kV_none, ne_eq, not_true_eq_false, not_false_eq_true, true_implies, false_implies, implies_true, true_and, and_true, ab_z01, or_true, true_or, reduceCtorEq, Option.some.injEq, Int.reduceEq, Int.reduceNe, Int.reduceLT, Int.reduceLE, Int.reduceNeg, Int.reduceAdd, Int.reduceSub, Int.reduceMul, Nat.reduceEqDiff, Nat.reduceAdd, Nat.reduceMul, Int.reduceToNat, ↓reduceIte]
    · have h1 := c.1
      have h2 := c.2
      have h3 := c1.1
      have h4 := c1.2
      exact ⟨fun e => k0 (fun z => z.2.2 e), fun e => ⟨i3 (by omega) (by omega), i3 (by omega) (by omega), k1 ⟨c, c1, e⟩⟩⟩
    · exact k0 (fun z => c1 z.2.1)
  · exact k0 (fun z => c z.1)
set_option maxRecDepth 100000 in
set_option maxHeartbeats 4000000 in
theorem cc_lawAt {d : Nat} {h : AbH} {K : Option AbV → AbH → Prop} {P : Nat → Prop} {a : Nat} {w : Nat → Int} {al ao af ae : Nat} {g1 g2 : Nat → Option Nat} {ff fl : Nat → Int} {i : Int} (hw : wV w) (c : CX P h a w al ao af ae g1 g2 ff fl) (k1 : ∀ k : Nat, i = (k : Int) → k < nl w → ∀ b, g1 k = some b → hpO h b = some (0, lwF w k) → ¬ P b → K (some (vR (some b))) h) (k0 : ¬ (0 ≤ i ∧ i < w 0) → K (some (vR none)) h) : Vm (d + 2) m_X8_lawAt [vR (some a), vI i] h K := by
  obtain ⟨n1, n2⟩ := hw.nlw
  obtain ⟨c1, c2, c3, c4, c5, c6, c7, c8⟩ := c
  refine Vm.intro rfl (Nat.le_of_ble_eq_true rfl) (fun _ => B_X8_lawAt_0 ?_)
  refine gR_i c1 rfl (nR_i c2 ⟨i3 (by omega) (by omega), ?_⟩)
  refine cc_within (fun q => ?_) (fun q => ?_) <;> simp only [kI_some, kL_some, kR_some, kV_none, ne_eq, not_true_eq_false, not_false_eq_true, true_implies, false_implies, implies_true, true_and, and_true, ab_z01, or_true, true_or, reduceCtorEq, Option.some.injEq, Int.reduceEq, Int.reduceNe, Int.reduceLT, Int.reduceLE, Int.reduceNeg, Int.reduceAdd, Int.reduceSub, Int.reduceMul, Nat.reduceEqDiff, Nat.reduceAdd, Nat.reduceMul, Int.reduceToNat, ↓reduceIte]
  · refine gR_i c1 rfl (lR_i c2 (by omega) (by omega) ?_)
    obtain ⟨k, rfl⟩ := Int.eq_ofNat_of_zero_le q.1
    rw [Int.toNat_natCast]
    by_cases z : k < nl w
    · obtain ⟨b, b1, b2, b3⟩ := (c6 k (by omega)).1 z
      rw [b1]
      exact k1 k rfl z b b1 b3 b2
    · rw [(c6 k (by omega)).2 z]
      exact k0 (by omega)
  · exact k0 (by omega)
set_option maxRecDepth 100000 in
set_option maxHeartbeats 4000000 in
theorem cc_loanAt {d : Nat} {h : AbH} {K : Option AbV → AbH → Prop} {P : Nat → Prop} {a : Nat} {w : Nat → Int} {al ao af ae : Nat} {g1 g2 : Nat → Option Nat} {ff fl : Nat → Int} {i : Int} (hw : wV w) (c : CX P h a w al ao af ae g1 g2 ff fl) (k1 : ∀ k : Nat, i = (k : Int) → k < no w → ∀ b, g2 k = some b → hpO h b = some (2, loF w k) → ¬ P b → K (some (vR (some b))) h) (k0 : ¬ (0 ≤ i ∧ i < w 1) → K (some (vR none)) h) : Vm (d + 2) m_X8_loanAt [vR (some a), vI i] h K := by
  obtain ⟨n1, n2⟩ := hw.now
  obtain ⟨c1, c2, c3, c4, c5, c6, c7, c8⟩ := c
  refine Vm.intro rfl (Nat.le_of_ble_eq_true rfl) (fun _ => B_X8_loanAt_0 ?_)
  refine gR_i c1 rfl (nR_i c3 ⟨i3 (by omega) (by omega), ?_⟩)
  refine cc_within (fun q => ?_) (fun q => ?_) <;> simp only [kI_some, kL_some, kR_some, kV_none, ne_eq, not_true_eq_false, not_false_eq_true, true_implies, false_implies, implies_true, true_and, and_true, ab_z01, or_true, true_or, reduceCtorEq, Option.some.injEq, Int.reduceEq, Int.reduceNe, Int.reduceLT, Int.reduceLE, Int.reduceNeg, Int.reduceAdd, Int.reduceSub, Int.reduceMul, Nat.reduceEqDiff, Nat.reduceAdd, Nat.reduceMul, Int.reduceToNat, ↓reduceIte]
  · refine gR_i c1 rfl (lR_i c3 (by omega) (by omega) ?_)
    obtain ⟨k, rfl⟩ := Int.eq_ofNat_of_zero_le q.1
    rw [Int.toNat_natCast]
    by_cases z : k < no w
    · obtain ⟨b, b1, b2, b3⟩ := (c7 k (by omega)).1 z
      rw [b1]
      exact k1 k rfl z b b1 b3 b2
    · rw [(c7 k (by omega)).2 z]
      exact k0 (by omega)
  · exact k0 (by omega)
set_option maxRecDepth 100000 in
set_option maxHeartbeats 4000000 in
theorem cc_firstOf {d : Nat} {h : AbH} {K : Option AbV → AbH → Prop} {P : Nat → Prop} {a : Nat} {w : Nat → Int} {al ao af ae : Nat} {g1 g2 : Nat → Option Nat} {ff fl : Nat → Int} {p : Int} (c : CX P h a w al ao af ae g1 g2 ff fl) (kk : K (some (vI (fO w p))) h) : Vm (d + 2) m_X8_firstOf [vR (some a), vI p] h K := by
  obtain ⟨c1, c2, c3, c4, c5, c6, c7, c8⟩ := c
  refine Vm.intro rfl (Nat.le_of_ble_eq_true rfl) (fun _ => B_X8_firstOf_0 ?_)
  refine gR_i c1 rfl (nI_i c4 ⟨i3 (by omega) (by omega), ?_⟩)
  unfold fO at kk
  refine cc_within (fun q => ?_) (fun q => ?_) <;> simp only [kI_some, kL_some, kR_some, kV_none, ne_eq, not_true_eq_false, not_false_eq_true, true_implies, false_implies, implies_true, true_and, and_true, ab_z01, or_true, true_or, reduceCtorEq, Option.some.injEq, Int.reduceEq, Int.reduceNe, Int.reduceLT, Int.reduceLE, Int.reduceNeg, Int.reduceAdd, Int.reduceSub, Int.reduceMul, Nat.reduceEqDiff, Nat.reduceAdd, Nat.reduceMul, Int.reduceToNat, ↓reduceIte]
  · rw [if_pos (by omega)] at kk
    refine gR_i c1 rfl (lI_i c4 (by omega) (by omega) ?_)
    rw [(c8 p.toNat (by omega)).1]
    exact kk
  · rw [if_neg (by omega)] at kk
    exact kk
set_option maxRecDepth 100000 in
set_option maxHeartbeats 4000000 in
theorem cc_lastOf {d : Nat} {h : AbH} {K : Option AbV → AbH → Prop} {P : Nat → Prop} {a : Nat} {w : Nat → Int} {al ao af ae : Nat} {g1 g2 : Nat → Option Nat} {ff fl : Nat → Int} {p : Int} (c : CX P h a w al ao af ae g1 g2 ff fl) (kk : K (some (vI (lO w p))) h) : Vm (d + 2) m_X8_lastOf [vR (some a), vI p] h K := by
  obtain ⟨c1, c2, c3, c4, c5, c6, c7, c8⟩ := c
  refine Vm.intro rfl (Nat.le_of_ble_eq_true rfl) (fun _ => B_X8_lastOf_0 ?_)
  refine gR_i c1 rfl (nI_i c5 ⟨i3 (by omega) (by omega), ?_⟩)
  unfold lO at kk
  refine cc_within (fun q => ?_) (fun q => ?_) <;> simp only [kI_some, kL_some, kR_some, kV_none, ne_eq, not_true_eq_false, not_false_eq_true, true_implies, false_implies, implies_true, true_and, and_true, ab_z01, or_true, true_or, reduceCtorEq, Option.some.injEq, Int.reduceEq, Int.reduceNe, Int.reduceLT, Int.reduceLE, Int.reduceNeg, Int.reduceAdd, Int.reduceSub, Int.reduceMul, Nat.reduceEqDiff, Nat.reduceAdd, Nat.reduceMul, Int.reduceToNat, ↓reduceIte]
  · rw [if_pos (by omega)] at kk
    refine gR_i c1 rfl (lI_i c5 (by omega) (by omega) ?_)
    rw [(c8 p.toNat (by omega)).2]
    exact kk
  · rw [if_neg (by omega)] at kk
    exact kk
def isM (w : Nat → Int) (p dd : Int) : Bool := decide (fO w p ≠ -1 ∧ fO w p ≤ dd ∧ dd ≤ lO w p)
set_option maxRecDepth 100000 in
set_option maxHeartbeats 4000000 in
theorem cc_isMeeting {d : Nat} {h : AbH} {K : Option AbV → AbH → Prop} {P : Nat → Prop} {a : Nat} {w : Nat → Int} {al ao af ae : Nat} {g1 g2 : Nat → Option Nat} {ff fl : Nat → Int} {p dd : Int} (c : CX P h a w al ao af ae g1 g2 ff fl) (k1 : fO w p ≠ -1 ∧ fO w p ≤ dd ∧ dd ≤ lO w p → K (some (vI 1)) h) (k0 : ¬ (fO w p ≠ -1 ∧ fO w p ≤ dd ∧ dd ≤ lO w p) → K (some (vI 0)) h) : Vm (d + 3) m_X8_isMeeting [vR (some a), vI p, vI dd] h K := by
  have c1 := c.1
  refine Vm.intro rfl (Nat.le_of_ble_eq_true rfl) (fun _ => B_X8_isMeeting_0 ?_)
  refine cv_i c1 (cc_firstOf c ?_)
  simp only [kI_some, kL_some, kR_some, kV_none, ne_eq, not_true_eq_false, not_false_eq_true, true_implies, false_implies, implies_true, true_and, and_true, ab_z01, or_true, true_or, reduceCtorEq, Option.some.injEq, Int.reduceEq, Int.reduceNe, Int.reduceLT, Int.reduceLE, Int.reduceNeg, Int.reduceAdd, Int.reduceSub, Int.reduceMul, Nat.reduceEqDiff, Nat.reduceAdd, Nat.reduceMul, Int.reduceToNat, ↓reduceIte]
  refine ⟨fun q => k0 (fun z => z.1 q), fun q => ?_⟩
  refine cv_i c1 (cc_firstOf c ?_)
  simp only [kI_some, kL_some, kR_some, kV_none, ne_eq, not_true_eq_false, not_false_eq_true, true_implies, false_implies, implies_true, true_and, and_true, ab_z01, or_true, true_or, reduceCtorEq, Option.some.injEq, Int.reduceEq, Int.reduceNe, Int.reduceLT, Int.reduceLE, Int.reduceNeg, Int.reduceAdd, Int.reduceSub, Int.reduceMul, Nat.reduceEqDiff, Nat.reduceAdd, Nat.reduceMul, Int.reduceToNat, ↓reduceIte]
  refine cv_i c1 (cc_lastOf c ?_)
  simp only [kI_some, kL_some, kR_some, kV_none, ne_eq, not_true_eq_false, not_false_eq_true, true_implies, false_implies, implies_true, true_and, and_true, ab_z01, or_true, true_or, reduceCtorEq, Option.some.injEq, Int.reduceEq, Int.reduceNe, Int.reduceLT, Int.reduceLE, Int.reduceNeg, Int.reduceAdd, Int.reduceSub, Int.reduceMul, Nat.reduceEqDiff, Nat.reduceAdd, Nat.reduceMul, Int.reduceToNat, ↓reduceIte]
  refine cc_within (fun z => ?_) (fun z => ?_) <;> simp only [kI_some, kL_some, kR_some, kV_none, ne_eq, not_true_eq_false, not_false_eq_true, true_implies, false_implies, implies_true, true_and, and_true, ab_z01, or_true, true_or, reduceCtorEq, Option.some.injEq, Int.reduceEq, Int.reduceNe, Int.reduceLT, Int.reduceLE, Int.reduceNeg, Int.reduceAdd, Int.reduceSub, Int.reduceMul, Nat.reduceEqDiff, Nat.reduceAdd, Nat.reduceMul, Int.reduceToNat, ↓reduceIte]
  · exact k1 ⟨q, z⟩
  · exact k0 (fun y => z y.2)
