/-! windows, in the class -/
def W3 (a b c : Nat) (q : Nat) : Prop := q = a ∨ q = b ∨ q = c
def WN (h : AbH) (aw wf wl : Nat) (n : Int) (F G : Nat → Int) : Prop := hpO h aw = some (6, [vR (some wf), vR (some wl), vI n]) ∧ hpI h wf = some (17, F) ∧ hpI h wl = some (17, G) ∧ wf ≠ wl
def wAt (n : Int) (F : Nat → Int) (k : Int) : Int := if (0 ≤ k ∧ k ≤ n - 1) ∧ k < 17 then F k.toNat else -1
set_option maxRecDepth 100000 in
set_option maxHeartbeats 4000000 in
theorem cc_wfirst {d : Nat} {h : AbH} {K : Option AbV → AbH → Prop} {aw wf wl : Nat} {n : Int} {F G : Nat → Int} {k : Int} (c : WN h aw wf wl n F G) (hn : 0 ≤ n ∧ n ≤ 17) (kk : K (some (vI (wAt n F k))) h) : Vm (d + 2) m_X7_firstOf [vR (some aw), vI k] h K := by
  obtain ⟨c1, c2, c3, c4⟩ := c
  refine Vm.intro rfl (Nat.le_of_ble_eq_true rfl) (fun _ => B_X7_firstOf_0 ?_)
  unfold wAt at kk
  refine gI_i c1 rfl ⟨i3 (by omega) (by omega), ?_⟩
  refine cc_within (fun q => ?_) (fun q => ?_) <;> simp only [kI_some, kL_some, kR_some, kV_none, ne_eq, not_true_eq_false, not_false_eq_true, true_implies, false_implies, implies_true, true_and, and_true, ab_z01, or_true, true_or, reduceCtorEq, Option.some.injEq, Int.reduceEq, Int.reduceNe, Int.reduceLT, Int.reduceLE, Int.reduceNeg, Int.reduceAdd, Int.reduceSub, Int.reduceMul, Nat.reduceEqDiff, Nat.reduceAdd, Nat.reduceMul, Int.reduceToNat, ↓reduceIte]
  · refine gR_i c1 rfl (nI_i c2 ⟨fun z => ?_, fun z => ?_⟩)
    · rw [if_neg (by omega)] at kk
      exact kk
    · rw [if_pos (by omega)] at kk
      exact gR_i c1 rfl (lI_i c2 (by omega) (by omega) kk)
  · rw [if_neg (fun z => q z.1)] at kk
    exact kk
set_option maxRecDepth 100000 in
set_option maxHeartbeats 4000000 in
theorem cc_wlast {d : Nat} {h : AbH} {K : Option AbV → AbH → Prop} {aw wf wl : Nat} {n : Int} {F G : Nat → Int} {k : Int} (c : WN h aw wf wl n F G) (hn : 0 ≤ n ∧ n ≤ 17) (kk : K (some (vI (wAt n G k))) h) : Vm (d + 2) m_X7_lastOf [vR (some aw), vI k] h K := by
  obtain ⟨c1, c2, c3, c4⟩ := c
  refine Vm.intro rfl (Nat.le_of_ble_eq_true rfl) (fun _ => B_X7_lastOf_0 ?_)
  unfold wAt at kk
  refine gI_i c1 rfl ⟨i3 (by omega) (by omega), ?_⟩
  refine cc_within (fun q => ?_) (fun q => ?_) <;> simp only [kI_some, kL_some, kR_some, kV_none, ne_eq, not_true_eq_false, not_false_eq_true, true_implies, false_implies, implies_true, true_and, and_true, ab_z01, or_true, true_or, reduceCtorEq, Option.some.injEq, Int.reduceEq, Int.reduceNe, Int.reduceLT, Int.reduceLE, Int.reduceNeg, Int.reduceAdd, Int.reduceSub, Int.reduceMul, Nat.reduceEqDiff, Nat.reduceAdd, Nat.reduceMul, Int.reduceToNat, ↓reduceIte]
  · refine gR_i c1 rfl (nI_i c3 ⟨fun z => ?_, fun z => ?_⟩)
    · rw [if_neg (by omega)] at kk
      exact kk
    · rw [if_pos (by omega)] at kk
      exact gR_i c1 rfl (lI_i c3 (by omega) (by omega) kk)
  · rw [if_neg (fun z => q z.1)] at kk
    exact kk
theorem sI_i {h : AbH} {a n : Nat} {i v : Int} {g : Nat → Int} {f : AbH → Prop} (ho : hpI h a = some (n, g)) (h1 : 0 ≤ i) (h2 : i < (n : Int)) (hf : f (hsI h a (n, va_up g i.toNat v))) : wpSI h (some a) i v f := ⟨a, n, g, rfl, ho, h1, h2, hf⟩
set_option maxRecDepth 100000 in
set_option maxHeartbeats 4000000 in
theorem cc_wadd {d : Nat} {h : AbH} {K : Option AbV → AbH → Prop} {aw wf wl n : Nat} {F G : Nat → Int} {x y : Int} (c : WN h aw wf wl (n : Int) F G) (hn : n ≤ 16) (hx : 0 ≤ x ∧ x ≤ 99) (kk : ∀ h' n' F' G', WN h' aw wf wl ((n' : Nat) : Int) F' G' → Xt (W3 aw wf wl) h h' → ((0 < n ∧ G (n - 1) = x - 1 ∧ n' = n ∧ F' = F ∧ G' = va_up G (n - 1) y) ∨ (¬ (0 < n ∧ G (n - 1) = x - 1) ∧ n' = n + 1 ∧ F' = va_up F n x ∧ G' = va_up G n y)) → K none h') : Vm (d + 3) m_X7_add [vR (some aw), vI x, vI y] h K := by
  obtain ⟨c1, c2, c3, c4⟩ := id c
  have F64 : ∀ (h1 : AbH) (n1 : Nat) (F1 : Nat → Int), n1 ≤ 16 → WN h1 aw wf wl (n1 : Int) F1 G → Xt (W3 aw wf wl) h h1 → ((0 < n ∧ G (n - 1) = x - 1 ∧ n1 + 1 = n ∧ F1 = F) ∨ (¬ (0 < n ∧ G (n - 1) = x - 1) ∧ n1 = n ∧ F1 = va_up F n x)) → Vx (d + 3) m_X7_add 0 0 64 [some (vR (some aw)), some (vI x), some (vI y)] [] h1 K := by
    intro h1 n1 F1 hn1 e hX hr
    obtain ⟨e1, e2, e3, e4⟩ := e
    refine B_X7_add_64 ?_
    refine gI_i e1 rfl (gR_i e1 rfl (nI_i e3 ⟨i3 (by omega) (by omega), ?_⟩))
    refine cc_within (fun q => ?_) (fun q => absurd (by omega) q)
    simp only [kI_some, kL_some, kR_some, kV_none, ne_eq, not_true_eq_false, not_false_eq_true, true_implies, false_implies, implies_true, true_and, and_true, ab_z01, or_true, true_or, reduceCtorEq, Option.some.injEq, Int.reduceEq, Int.reduceNe, Int.reduceLT, Int.reduceLE, Int.reduceNeg, Int.reduceAdd, Int.reduceSub, Int.reduceMul, Nat.reduceEqDiff, Nat.reduceAdd, Nat.reduceMul, Int.reduceToNat, ↓reduceIte]
    refine gR_i e1 rfl (gI_i e1 rfl (sI_i e3 (by omega) (by omega) ?_))
    rw [Int.toNat_natCast]
    have o1 : hpO (hsI h1 wl (17, va_up G n1 y)) aw = some (6, [vR (some wf), vR (some wl), vI (n1 : Int)]) := e1
    refine gI_i o1 rfl ⟨i3 (by omega) (by omega), p_i o1 (by show 2 < 3; decide) ?_⟩
    refine kk _ (n1 + 1) F1 (va_up G n1 y) ⟨?_, ?_, ?_, c4⟩ (hX.tr ((xt_I (Or.inl (Or.inr (Or.inr rfl)))).tr (xt_O (Or.inl (Or.inl rfl))))) ?_
    · rw [hO_O, if_pos rfl]
      rfl
    · show hpI (hsI h1 wl (17, va_up G n1 y)) wf = _
      rw [hI_I, if_neg c4]
      exact e2
    · show hpI (hsI h1 wl (17, va_up G n1 y)) wl = _
      rw [hI_I, if_pos rfl]
    · rcases hr with ⟨r1, r2, r3, r4⟩ | ⟨r1, r2, r3⟩
      · exact Or.inl ⟨r1, r2, r3, r4, by rw [show n1 = n - 1 by omega]⟩
      · exact Or.inr ⟨r1, by rw [r2], r3, by rw [r2]⟩
  have F36 : ¬ (0 < n ∧ G (n - 1) = x - 1) → Vx (d + 3) m_X7_add 0 0 36 [some (vR (some aw)), some (vI x), some (vI y)] [] h K := by
    intro hr
    refine B_X7_add_36 ?_
    refine gI_i c1 rfl (gR_i c1 rfl (nI_i c2 ⟨i3 (by omega) (by omega), ?_⟩))
    refine cc_within (fun q => ?_) (fun q => absurd (by omega) q)
    simp only [kI_some, kL_some, kR_some, kV_none, ne_eq, not_true_eq_false, not_false_eq_true, true_implies, false_implies, implies_true, true_and, and_true, ab_z01, or_true, true_or, reduceCtorEq, Option.some.injEq, Int.reduceEq, Int.reduceNe, Int.reduceLT, Int.reduceLE, Int.reduceNeg, Int.reduceAdd, Int.reduceSub, Int.reduceMul, Nat.reduceEqDiff, Nat.reduceAdd, Nat.reduceMul, Int.reduceToNat, ↓reduceIte]
    refine gR_i c1 rfl (gI_i c1 rfl (sI_i c2 (by omega) (by omega) ?_))
    rw [Int.toNat_natCast]
    refine F64 _ n (va_up F n x) hn ⟨c1, ?_, ?_, c4⟩ (xt_I (Or.inl (Or.inr (Or.inl rfl)))) (Or.inr ⟨hr, rfl, rfl⟩)
    · rw [hI_I, if_pos rfl]
    · rw [hI_I, if_neg (fun z => c4 z.symm)]
      exact c3
  refine Vm.intro rfl (Nat.le_of_ble_eq_true rfl) (fun _ => B_X7_add_0 ?_)
  refine gI_i c1 rfl ⟨fun z => F36 (fun q => by omega), fun z => ?_⟩
  refine gI_i c1 rfl ⟨i3 (by omega) (by omega), ?_⟩
  refine cv_i c1 (cc_wlast c (by omega) ?_)
  have e : wAt (n : Int) G ((n : Int) - 1) = G (n - 1) := by
    unfold wAt
    rw [if_pos (by omega), show ((n : Int) - 1).toNat = n - 1 by omega]
  simp only [kI_some, kL_some, kR_some, kV_none, ne_eq, not_true_eq_false, not_false_eq_true, true_implies, false_implies, implies_true, true_and, and_true, ab_z01, or_true, true_or, reduceCtorEq, Option.some.injEq, Int.reduceEq, Int.reduceNe, Int.reduceLT, Int.reduceLE, Int.reduceNeg, Int.reduceAdd, Int.reduceSub, Int.reduceMul, Nat.reduceEqDiff, Nat.reduceAdd, Nat.reduceMul, Int.reduceToNat, ↓reduceIte]
  rw [e]
  refine ⟨i3 (by omega) (by omega), fun q => F36 (fun y => q y.2), fun q => ?_⟩
  refine gI_i c1 rfl ⟨i3 (by omega) (by omega), p_i c1 (by show 2 < 3; decide) ?_⟩
  refine F64 _ (n - 1) F (by omega) ⟨?_, c2, c3, c4⟩ (xt_O (Or.inl (Or.inl rfl))) (Or.inl ⟨by omega, Classical.byContradiction q, by omega, rfl⟩)
  rw [hO_O, if_pos rfl, show ((n - 1 : Nat) : Int) = (n : Int) - 1 by omega]
  rfl
/-- only laws make the results differ -/
theorem devN_at {w : Nat → Int} {f : Int} {d d' : Int} {l : List Int} : ∀ n, (∀ j, j < n → (lw w j 1 ≤ d ↔ lw w j 1 ≤ d')) → devN w f 0 d l n = devN w f 0 d' l n ∧ devN w f d 99 l n = devN w f d' 99 l n
  | 0, _ => ⟨rfl, rfl⟩
  | n + 1, h => by
    obtain ⟨h1, h2⟩ := devN_at n (fun j hj => h j (by omega))
    have hn := h n (by omega)
    constructor
    · show (if lw w n 0 = f ∧ 0 < lw w n 1 ∧ lw w n 1 ≤ d then ap w n (devN w f 0 d l n) else devN w f 0 d l n) = (if lw w n 0 = f ∧ 0 < lw w n 1 ∧ lw w n 1 ≤ d' then ap w n (devN w f 0 d' l n) else devN w f 0 d' l n)
      rw [h1]
      by_cases c : lw w n 0 = f ∧ 0 < lw w n 1 ∧ lw w n 1 ≤ d
      · rw [if_pos c, if_pos ⟨c.1, c.2.1, hn.mp c.2.2⟩]
      · rw [if_neg c, if_neg (fun z => c ⟨z.1, z.2.1, hn.mpr z.2.2⟩)]
    · show (if lw w n 0 = f ∧ d < lw w n 1 ∧ lw w n 1 ≤ 99 then ap w n (devN w f d 99 l n) else devN w f d 99 l n) = (if lw w n 0 = f ∧ d' < lw w n 1 ∧ lw w n 1 ≤ 99 then ap w n (devN w f d' 99 l n) else devN w f d' 99 l n)
      rw [h2]
      by_cases c : lw w n 0 = f ∧ d < lw w n 1 ∧ lw w n 1 ≤ 99
      · rw [if_pos c, if_pos ⟨c.1, by omega, c.2.2⟩]
      · rw [if_neg c, if_neg (fun z => c ⟨z.1, by omega, z.2.2⟩)]
theorem borr_at {w : Nat → Int} {f t d d' : Int} {l : List Int} (h : ∀ j, j < nl w → (lw w j 1 ≤ d ↔ lw w j 1 ≤ d')) : borr w f t d l = borr w f t d' l := by
  unfold borr dev
  rw [(devN_at (f := f) (l := l) (nl w) h).1, (devN_at (f := t) (nl w) h).2]
theorem lw_mono {w : Nat → Int} (hw : wV w) : ∀ j i, i ≤ j → j < nl w → lw w i 1 ≤ lw w j 1
  | 0, i, h, _ => by rw [show i = 0 by omega]; exact Int.le_refl _
  | j + 1, i, h, hj => by
    by_cases e : i = j + 1
    · rw [e]; exact Int.le_refl _
    · have := lw_mono hw j i (by omega) (by omega)
      have := hw.2.2.1 j hj
      omega
