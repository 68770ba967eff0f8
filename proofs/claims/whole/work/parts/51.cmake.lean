/-! worlds in the making: their cells are new against an older heap -/
theorem Xt.nO {P : Nat → Prop} {h0 h : AbH} {a : Nat} {c : Nat × List AbV} (x : Xt P h0 h) (n : ab_new h0 a) : Xt P h0 (hsO h a c) := ⟨fun q hq => ⟨fun c' e => by
  rw [hO_O]
  by_cases z : q = a
  · rw [z, n.1] at e; cases e
  · rw [if_neg z]; exact x.O hq e, (x.1 q hq).2.1, (x.1 q hq).2.2.1, (x.1 q hq).2.2.2.1, (x.1 q hq).2.2.2.2⟩, x.2.1, x.2.2.1, x.2.2.2.1, fun q z => x.2.2.2.2 q ⟨nn_O z.1, z.2⟩⟩
theorem Xt.nI {P : Nat → Prop} {h0 h : AbH} {a : Nat} {c : Nat × (Nat → Int)} (x : Xt P h0 h) (n : ab_new h0 a) : Xt P h0 (hsI h a c) := ⟨fun q hq => ⟨(x.1 q hq).1, fun c' e => by
  rw [hI_I]
  by_cases z : q = a
  · rw [z, n.2.1] at e; cases e
  · rw [if_neg z]; exact x.I hq e, (x.1 q hq).2.2.1, (x.1 q hq).2.2.2.1, (x.1 q hq).2.2.2.2⟩, x.2.1, x.2.2.1, x.2.2.2.1, fun q z => x.2.2.2.2 q ⟨z.1, nn_I z.2.1, z.2.2⟩⟩
theorem Xt.nR {P : Nat → Prop} {h0 h : AbH} {a : Nat} {c : Nat × Nat × (Nat → Option Nat)} (x : Xt P h0 h) (n : ab_new h0 a) : Xt P h0 (hsR h a c) := ⟨fun q hq => ⟨(x.1 q hq).1, (x.1 q hq).2.1, (x.1 q hq).2.2.1, (x.1 q hq).2.2.2.1, fun c' e => by
  rw [hR_R]
  by_cases z : q = a
  · rw [z, n.2.2.2.2] at e; cases e
  · rw [if_neg z]; exact x.R hq e⟩, x.2.1, x.2.2.1, x.2.2.2.1, fun q z => x.2.2.2.2 q ⟨z.1, z.2.1, z.2.2.1, z.2.2.2.1, nn_R z.2.2.2.2⟩⟩
theorem Xt.new {P : Nat → Prop} {h0 h : AbH} (x : Xt P h0 h) {q : Nat} (n : ab_new h q) : ab_new h0 q := x.2.2.2.2 q n
theorem Xt.wk {P : Nat → Prop} {h h' : AbH} (x : Xt (ab_new h) h h') : Xt P h h' := ⟨fun q _ => ⟨fun c e => x.O (fun z => by rw [z.1] at e; cases e) e, fun c e => x.I (fun z => by rw [z.2.1] at e; cases e) e, fun c e => x.J (fun z => by rw [z.2.2.1] at e; cases e) e, fun c e => x.Z (fun z => by rw [z.2.2.2.1] at e; cases e) e, fun c e => x.R (fun z => by rw [z.2.2.2.2] at e; cases e) e⟩, x.2⟩
/-- what is made behind h0 keeps what stood in h0 -/
theorem Xt.trN {P : Nat → Prop} {h0 h h' : AbH} (x : Xt P h0 h) (y : Xt (ab_new h0) h h') : Xt P h0 h' := ⟨fun q hq => ⟨fun c e => y.O (fun z => by rw [z.1] at e; cases e) (x.O hq e), fun c e => y.I (fun z => by rw [z.2.1] at e; cases e) (x.I hq e), fun c e => y.J (fun z => by rw [z.2.2.1] at e; cases e) (x.J hq e), fun c e => y.Z (fun z => by rw [z.2.2.2.1] at e; cases e) (x.Z hq e), fun c e => y.R (fun z => by rw [z.2.2.2.2] at e; cases e) (x.R hq e)⟩, y.2.1.trans x.2.1, y.2.2.1.trans x.2.2.1, y.2.2.2.1.trans x.2.2.2.1, fun q z => x.2.2.2.2 q (y.2.2.2.2 q z)⟩
def C5 (h : AbH) (a al ao af ae : Nat) (g1 g2 : Nat → Option Nat) (ff fl : Nat → Int) (n m : Int) : Prop := hpO h a = some (7, [vR (some al), vR (some ao), vR (some af), vR (some ae), vI n, vI m]) ∧ hpR h al = some (0, 16, g1) ∧ hpR h ao = some (2, 12, g2) ∧ hpI h af = some (16, ff) ∧ hpI h ae = some (16, fl)
def N5 (h0 : AbH) (a al ao af ae : Nat) : Prop := (ab_new h0 a ∧ ab_new h0 al ∧ ab_new h0 ao ∧ ab_new h0 af ∧ ab_new h0 ae) ∧ al ≠ ao ∧ af ≠ ae
def CT (P : Nat → Prop) (h : AbH) (w : Nat → Int) (g1 g2 : Nat → Option Nat) (ff fl : Nat → Int) : Prop :=
  (∀ k, k < 16 → (k < nl w → ∃ b, g1 k = some b ∧ ¬ P b ∧ hpO h b = some (0, lwF w k)) ∧ (¬ k < nl w → g1 k = none)) ∧
  (∀ k, k < 12 → (k < no w → ∃ b, g2 k = some b ∧ ¬ P b ∧ hpO h b = some (2, loF w k)) ∧ (¬ k < no w → g2 k = none)) ∧
  ∀ p, p < 16 → ff p = w (98 + 2 * p) - 1 ∧ fl p = if w (98 + 2 * p) = 0 then -1 else w (98 + 2 * p + 1)
theorem CX_mk {P : Nat → Prop} {h : AbH} {a : Nat} {w : Nat → Int} {al ao af ae : Nat} {g1 g2 : Nat → Option Nat} {ff fl : Nat → Int} (c : C5 h a al ao af ae g1 g2 ff fl (w 0) (w 1)) (t : CT P h w g1 g2 ff fl) : CX P h a w al ao af ae g1 g2 ff fl := ⟨c.1, c.2.1, c.2.2.1, c.2.2.2.1, c.2.2.2.2, t.1, t.2.1, t.2.2⟩
theorem CX.c5 {P : Nat → Prop} {h : AbH} {a : Nat} {w : Nat → Int} {al ao af ae : Nat} {g1 g2 : Nat → Option Nat} {ff fl : Nat → Int} (c : CX P h a w al ao af ae g1 g2 ff fl) : C5 h a al ao af ae g1 g2 ff fl (w 0) (w 1) := ⟨c.1, c.2.1, c.2.2.1, c.2.2.2.1, c.2.2.2.2.1⟩
theorem CX.ct {P : Nat → Prop} {h : AbH} {a : Nat} {w : Nat → Int} {al ao af ae : Nat} {g1 g2 : Nat → Option Nat} {ff fl : Nat → Int} (c : CX P h a w al ao af ae g1 g2 ff fl) : CT P h w g1 g2 ff fl := c.2.2.2.2.2
theorem CT.mv {P : Nat → Prop} {h h' : AbH} {w : Nat → Int} {g1 g2 : Nat → Option Nat} {ff fl : Nat → Int} (c : CT P h w g1 g2 ff fl) (hm : ∀ b n fs, n ≠ 7 → ¬ P b → hpO h b = some (n, fs) → hpO h' b = some (n, fs)) : CT P h' w g1 g2 ff fl := by
  refine ⟨fun k hk => ⟨fun z => ?_, (c.1 k hk).2⟩, fun k hk => ⟨fun z => ?_, (c.2.1 k hk).2⟩, c.2.2⟩
  · obtain ⟨b, b1, b2, b3⟩ := (c.1 k hk).1 z
    exact ⟨b, b1, b2, hm _ _ _ (by decide) b2 b3⟩
  · obtain ⟨b, b1, b2, b3⟩ := (c.2.1 k hk).1 z
    exact ⟨b, b1, b2, hm _ _ _ (by decide) b2 b3⟩
/-- a write to the world's own object leaves the laws and loans -/
theorem O7 {h : AbH} {a : Nat} {fs gs : List AbV} (ha : hpO h a = some (7, fs)) (P : Nat → Prop) : ∀ b n fs, n ≠ 7 → ¬ P b → hpO h b = some (n, fs) → hpO (hsO h a (7, gs)) b = some (n, fs) := fun b n fs hn _ e => by
  rw [hO_O]
  by_cases z : b = a
  · rw [z, ha] at e
    have : 7 = n := by simpa using congrArg (fun o => o.map Prod.fst) e
    exact absurd this.symm hn
  · rw [if_neg z]; exact e
theorem C5.s1 {h : AbH} {a al ao af ae : Nat} {g1 g2 : Nat → Option Nat} {ff fl : Nat → Int} {n m : Int} (c : C5 h a al ao af ae g1 g2 ff fl n m) (d : al ≠ ao) (g : Nat → Option Nat) : C5 (hsR h al (0, 16, g)) a al ao af ae g g2 ff fl n m := ⟨c.1, by rw [hR_R, if_pos rfl], by rw [hR_R, if_neg (fun z => d z.symm)]; exact c.2.2.1, c.2.2.2.1, c.2.2.2.2⟩
theorem C5.s2 {h : AbH} {a al ao af ae : Nat} {g1 g2 : Nat → Option Nat} {ff fl : Nat → Int} {n m : Int} (c : C5 h a al ao af ae g1 g2 ff fl n m) (d : al ≠ ao) (g : Nat → Option Nat) : C5 (hsR h ao (2, 12, g)) a al ao af ae g1 g ff fl n m := ⟨c.1, by rw [hR_R, if_neg d]; exact c.2.1, by rw [hR_R, if_pos rfl], c.2.2.2.1, c.2.2.2.2⟩
theorem C5.s3 {h : AbH} {a al ao af ae : Nat} {g1 g2 : Nat → Option Nat} {ff fl : Nat → Int} {n m : Int} (c : C5 h a al ao af ae g1 g2 ff fl n m) (d : af ≠ ae) (f : Nat → Int) : C5 (hsI h af (16, f)) a al ao af ae g1 g2 f fl n m := ⟨c.1, c.2.1, c.2.2.1, by rw [hI_I, if_pos rfl], by rw [hI_I, if_neg (fun z => d z.symm)]; exact c.2.2.2.2⟩
theorem C5.s4 {h : AbH} {a al ao af ae : Nat} {g1 g2 : Nat → Option Nat} {ff fl : Nat → Int} {n m : Int} (c : C5 h a al ao af ae g1 g2 ff fl n m) (d : af ≠ ae) (f : Nat → Int) : C5 (hsI h ae (16, f)) a al ao af ae g1 g2 ff f n m := ⟨c.1, c.2.1, c.2.2.1, by rw [hI_I, if_neg d]; exact c.2.2.2.1, by rw [hI_I, if_pos rfl]⟩
theorem C5.s0 {h : AbH} {a al ao af ae : Nat} {g1 g2 : Nat → Option Nat} {ff fl : Nat → Int} {n m : Int} (c : C5 h a al ao af ae g1 g2 ff fl n m) (n' m' : Int) : C5 (hsO h a (7, [vR (some al), vR (some ao), vR (some af), vR (some ae), vI n', vI m'])) a al ao af ae g1 g2 ff fl n' m' := ⟨by rw [hO_O, if_pos rfl], c.2.1, c.2.2.1, c.2.2.2.1, c.2.2.2.2⟩
/-- the world a, in the making since h0, shows the row w -/
def MW (P : Nat → Prop) (h0 h : AbH) (a : Nat) (w : Nat → Int) : Prop := wV w ∧ ∃ al ao af ae g1 g2 ff fl, C5 h a al ao af ae g1 g2 ff fl (w 0) (w 1) ∧ CT P h w g1 g2 ff fl ∧ N5 h0 a al ao af ae
theorem MW.cw {P : Nat → Prop} {h0 h : AbH} {a : Nat} {w : Nat → Int} (m : MW P h0 h a w) (hP : ∀ q, P q → ¬ ab_new h0 q) : CW P h a w := by
  obtain ⟨hw, al, ao, af, ae, g1, g2, ff, fl, c, t, ⟨n1, n2, n3, n4, n5⟩, -⟩ := m
  exact ⟨hw, al, ao, af, ae, g1, g2, ff, fl, CX_mk c t, fun z => hP _ z n1, fun z => hP _ z n2, fun z => hP _ z n3, fun z => hP _ z n4, fun z => hP _ z n5⟩
theorem MW.mv {P : Nat → Prop} {h0 h h' : AbH} {a : Nat} {w : Nat → Int} (m : MW P h0 h a w) (hP : ∀ q, P q → ¬ ab_new h0 q) (x : Xt P h h') : MW P h0 h' a w := by
  obtain ⟨hw, al, ao, af, ae, g1, g2, ff, fl, c, t, n⟩ := m
  obtain ⟨⟨n1, n2, n3, n4, n5⟩, -⟩ := id n
  exact ⟨hw, al, ao, af, ae, g1, g2, ff, fl, ⟨x.O (fun z => hP _ z n1) c.1, x.R (fun z => hP _ z n2) c.2.1, x.R (fun z => hP _ z n3) c.2.2.1, x.I (fun z => hP _ z n4) c.2.2.2.1, x.I (fun z => hP _ z n5) c.2.2.2.2⟩, t.mv (fun b _ _ _ hb e => x.O hb e), n⟩
def rAt (g : Nat → Option Nat) (N : Nat) (i : Int) : Option Nat := if 0 ≤ i ∧ i < (N : Int) then g i.toNat else none
set_option maxRecDepth 100000 in
set_option maxHeartbeats 4000000 in
theorem cr_lawAt {d : Nat} {h : AbH} {K : Option AbV → AbH → Prop} {a al ao af ae : Nat} {g1 g2 : Nat → Option Nat} {ff fl : Nat → Int} {n m i : Int} (c : C5 h a al ao af ae g1 g2 ff fl n m) (kk : K (some (vR (rAt g1 16 i))) h) : Vm (d + 2) m_X8_lawAt [vR (some a), vI i] h K := by
  obtain ⟨c1, c2, c3, c4, c5⟩ := c
  unfold rAt at kk
  refine Vm.intro rfl (Nat.le_of_ble_eq_true rfl) (fun _ => B_X8_lawAt_0 ?_)
  refine gR_i c1 rfl (nR_i c2 ⟨i3 (by omega) (by omega), ?_⟩)
  refine cc_within (fun q => ?_) (fun q => ?_) <;> simp only [kI_some, kL_some, kR_some, kV_none, ne_eq, not_true_eq_false, not_false_eq_true, true_implies, false_implies, implies_true, true_and, and_true, ab_z01, or_true, true_or, reduceCtorEq, Option.some.injEq, Int.reduceEq, Int.reduceNe, Int.reduceLT, Int.reduceLE, Int.reduceNeg, Int.reduceAdd, Int.reduceSub, Int.reduceMul, Nat.reduceEqDiff, Nat.reduceAdd, Nat.reduceMul, Int.reduceToNat, ↓reduceIte]
  · rw [if_pos (by omega)] at kk
    exact gR_i c1 rfl (lR_i c2 (by omega) (by omega) kk)
  · rw [if_neg (by omega)] at kk
    exact kk
set_option maxRecDepth 100000 in
set_option maxHeartbeats 4000000 in
theorem cr_loanAt {d : Nat} {h : AbH} {K : Option AbV → AbH → Prop} {a al ao af ae : Nat} {g1 g2 : Nat → Option Nat} {ff fl : Nat → Int} {n m i : Int} (c : C5 h a al ao af ae g1 g2 ff fl n m) (kk : K (some (vR (rAt g2 12 i))) h) : Vm (d + 2) m_X8_loanAt [vR (some a), vI i] h K := by
  obtain ⟨c1, c2, c3, c4, c5⟩ := c
  unfold rAt at kk
  refine Vm.intro rfl (Nat.le_of_ble_eq_true rfl) (fun _ => B_X8_loanAt_0 ?_)
  refine gR_i c1 rfl (nR_i c3 ⟨i3 (by omega) (by omega), ?_⟩)
  refine cc_within (fun q => ?_) (fun q => ?_) <;> simp only [kI_some, kL_some, kR_some, kV_none, ne_eq, not_true_eq_false, not_false_eq_true, true_implies, false_implies, implies_true, true_and, and_true, ab_z01, or_true, true_or, reduceCtorEq, Option.some.injEq, Int.reduceEq, Int.reduceNe, Int.reduceLT, Int.reduceLE, Int.reduceNeg, Int.reduceAdd, Int.reduceSub, Int.reduceMul, Nat.reduceEqDiff, Nat.reduceAdd, Nat.reduceMul, Int.reduceToNat, ↓reduceIte]
  · rw [if_pos (by omega)] at kk
    exact gR_i c1 rfl (lR_i c3 (by omega) (by omega) kk)
  · rw [if_neg (by omega)] at kk
    exact kk
set_option maxRecDepth 100000 in
set_option maxHeartbeats 4000000 in
theorem cr_setMeeting {d : Nat} {h : AbH} {K : Option AbV → AbH → Prop} {a al ao af ae : Nat} {g1 g2 : Nat → Option Nat} {ff fl : Nat → Int} {n m x y : Int} {p : Nat} (c : C5 h a al ao af ae g1 g2 ff fl n m) (hd : af ≠ ae) (hp : p < 16) (kk : C5 (hsI (hsI h af (16, va_up ff p x)) ae (16, va_up fl p y)) a al ao af ae g1 g2 (va_up ff p x) (va_up fl p y) n m → K none (hsI (hsI h af (16, va_up ff p x)) ae (16, va_up fl p y))) : Vm (d + 2) m_X8_setMeeting [vR (some a), vI (p : Int), vI x, vI y] h K := by
  refine Vm.intro rfl (Nat.le_of_ble_eq_true rfl) (fun _ => B_X8_setMeeting_0 ?_)
  refine cc_within (fun q => ?_) (fun q => absurd (by omega) q)
  simp only [kI_some, kL_some, kR_some, kV_none, ne_eq, not_true_eq_false, not_false_eq_true, true_implies, false_implies, implies_true, true_and, and_true, ab_z01, or_true, true_or, reduceCtorEq, Option.some.injEq, Int.reduceEq, Int.reduceNe, Int.reduceLT, Int.reduceLE, Int.reduceNeg, Int.reduceAdd, Int.reduceSub, Int.reduceMul, Nat.reduceEqDiff, Nat.reduceAdd, Nat.reduceMul, Int.reduceToNat, ↓reduceIte]
  refine gR_i c.1 rfl (sI_i c.2.2.2.1 (by omega) (by omega) ?_)
  rw [Int.toNat_natCast]
  have c' := c.s3 hd (va_up ff p x)
  refine gR_i c'.1 rfl (sI_i c'.2.2.2.2 (by omega) (by omega) ?_)
  rw [Int.toNat_natCast]
  exact kk (c'.s4 hd _)
/-- a meeting set in a world in the making -/
theorem mw_set {P : Nat → Prop} {h : AbH} {w : Nat → Int} {g1 g2 : Nat → Option Nat} {ff fl : Nat → Int} {f t a b : Int} {p : Nat} (hw : wV w) (hf : 0 ≤ f ∧ f ≤ 3) (ht : 0 ≤ t ∧ t ≤ 3) (hp : p = 4 * f.toNat + t.toNat) (x : CT P h w g1 g2 ff fl) : CT P h (setM w f t a b) g1 g2 (va_up ff p (a - 1)) (va_up fl p (if a = 0 then -1 else b)) := by
  have hx : ∀ j, j ≠ 98 + 2 * (4 * f.toNat + t.toNat) → j ≠ 98 + 2 * (4 * f.toNat + t.toNat) + 1 → setM w f t a b j = w j := fun j h1 h2 => by unfold setM; rw [vu_ne h2, vu_ne h1]
  have e0 : nl (setM w f t a b) = nl w := by unfold nl; rw [hx _ (by omega) (by omega)]
  have e1 : no (setM w f t a b) = no w := by unfold no; rw [hx _ (by omega) (by omega)]
  have hn := hw.nlw.2
  have ho := hw.now.2
  have hl : ∀ k, k < 16 → lwF (setM w f t a b) k = lwF w k := fun k hk => by
    unfold lwF lw
    rw [hx _ (by omega) (by omega), hx _ (by omega) (by omega), hx _ (by omega) (by omega), hx _ (by omega) (by omega), hx _ (by omega) (by omega), hx _ (by omega) (by omega)]
  have hlo : ∀ k j, lo (setM w f t a b) k j = lo w k j := fun k j => by
    unfold lo
    rw [hx _ (by omega) (by omega)]
  have hlf : ∀ k, loF (setM w f t a b) k = loF w k := fun k => by
    unfold loF word wend
    simp only [hlo]
  refine ⟨fun k hk => ?_, fun k hk => ?_, fun q hq => ?_⟩
  · rw [e0, hl k hk]; exact x.1 k hk
  · rw [e1, hlf k]; exact x.2.1 k hk
  · by_cases e : q = p
    · have z1 : setM w f t a b (98 + 2 * q) = a := by unfold setM; rw [e, hp, vu_ne (by omega), vu_same]
      have z2 : setM w f t a b (98 + 2 * q + 1) = b := by unfold setM; rw [e, hp, vu_same]
      rw [z1, z2, e, vu_same, vu_same]
      exact ⟨rfl, rfl⟩
    · rw [vu_ne e, vu_ne e, hx _ (by omega) (by omega), hx _ (by omega) (by omega)]
      exact x.2.2 q hq
set_option maxRecDepth 100000 in
set_option maxHeartbeats 4000000 in
theorem cm_set {d : Nat} {h0 h : AbH} {K : Option AbV → AbH → Prop} {P : Nat → Prop} {a : Nat} {w : Nat → Int} {f t u v x y : Int} (m : MW P h0 h a w) (hf : tg f) (ht : tg t) (hm : meetV u v) (hx : x = u - 1) (hy : y = if u = 0 then -1 else v) (kk : ∀ h', MW P h0 h' a (setM w f t u v) → Xt (ab_new h0) h h' → K none h') : Vm (d + 2) m_X8_setMeeting [vR (some a), vI (f * 4 + t), vI x, vI y] h K := by
  obtain ⟨hw, al, ao, af, ae, g1, g2, ff, fl, c, ct, n⟩ := m
  have hf : 0 ≤ f ∧ f ≤ 3 := ⟨hf.1, by have := hf.2; omega⟩
  have ht : 0 ≤ t ∧ t ≤ 3 := ⟨ht.1, by have := ht.2; omega⟩
  obtain ⟨p, hp⟩ : ∃ p, p = 4 * f.toNat + t.toNat := ⟨_, rfl⟩
  rw [show f * 4 + t = (p : Int) by omega]
  obtain ⟨q1, q2, q3⟩ := wV_set hw hf ht hm
  refine cr_setMeeting c n.2.2 (by omega) (fun c' => ?_)
  have e0 : setM w f t u v 0 = w 0 := by unfold setM; rw [vu_ne (by omega), vu_ne (by omega)]
  have e1 : setM w f t u v 1 = w 1 := by unfold setM; rw [vu_ne (by omega), vu_ne (by omega)]
  refine kk _ ⟨q1, al, ao, af, ae, g1, g2, _, _, by rw [e0, e1]; exact c', ?_, n⟩ ((xt_I (Or.inl n.1.2.2.2.1)).tr (xt_I (Or.inl n.1.2.2.2.2)))
  rw [hx, hy]
  exact (mw_set hw hf ht hp ct).mv (fun _ _ _ _ _ e => e)
/-! a law made, and put into its place -/
set_option maxRecDepth 100000 in
set_option maxHeartbeats 4000000 in
theorem cr_lawInit {d : Nat} {h : AbH} {K : Option AbV → AbH → Prop} {b : Nat} {t dd x y e z : Int} {fs : List AbV} (hb : hpO h b = some (0, fs)) (hl : fs.length = 6) (kk : ∀ h', hpO h' b = some (0, [vI t, vI dd, vI x, vI y, vI e, vI (if e = 0 then -1 else z)]) → (∀ P h0, Xt P h0 h → ab_new h0 b → Xt P h0 h') → (∀ q, q ≠ b → hpO h' q = hpO h q) → hpI h' = hpI h → hpR h' = hpR h → K none h') : Vm (d + 1) m_X1_init [vR (some b), vI t, vI dd, vI x, vI y, vI e, vI z] h K := by
  match fs, hl with
  | [f0, f1, f2, f3, f4, f5], _ =>
    refine Vm.intro rfl (Nat.le_of_ble_eq_true rfl) (fun _ => B_X1_init_0 ?_)
    have st : ∀ (h : AbH) (fs : List AbV), hpO (hsO h b (0, fs)) b = some (0, fs) := fun h fs => by rw [hO_O, if_pos rfl]
    refine p_i hb (by show 0 < 6; decide) ?_
    refine p_i (st _ _) (by show 1 < 6; decide) ?_
    refine p_i (st _ _) (by show 2 < 6; decide) ?_
    refine p_i (st _ _) (by show 3 < 6; decide) ?_
    refine p_i (st _ _) (by show 4 < 6; decide) ?_
    have ot : ∀ (h : AbH) (fs : List AbV) q, q ≠ b → hpO (hsO h b (0, fs)) q = hpO h q := fun h fs q hq => by rw [hO_O, if_neg hq]
    refine ⟨fun q => p_i (st _ _) (by show 5 < 6; decide) ?_, fun q => p_i (st _ _) (by show 5 < 6; decide) ?_⟩
    · refine kk _ ?_ (fun P h0 X n => (((((X.nO n).nO n).nO n).nO n).nO n).nO n) (fun q hq => by rw [ot _ _ _ hq, ot _ _ _ hq, ot _ _ _ hq, ot _ _ _ hq, ot _ _ _ hq, ot _ _ _ hq]) rfl rfl
      rw [st, if_neg q]
      rfl
    · refine kk _ ?_ (fun P h0 X n => (((((X.nO n).nO n).nO n).nO n).nO n).nO n) (fun q hq => by rw [ot _ _ _ hq, ot _ _ _ hq, ot _ _ _ hq, ot _ _ _ hq, ot _ _ _ hq, ot _ _ _ hq]) rfl rfl
      rw [st, if_pos (Classical.byContradiction q)]
      rfl
set_option maxRecDepth 100000 in
set_option maxHeartbeats 4000000 in
theorem cr_loanInit {d : Nat} {h : AbH} {K : Option AbV → AbH → Prop} {b : Nat} {f t x y : Int} {fs : List AbV} (hb : hpO h b = some (2, fs)) (hl : fs.length = 4) (kk : ∀ h', hpO h' b = some (2, [vI f, vI t, vL x, vL y]) → (∀ P h0, Xt P h0 h → ab_new h0 b → Xt P h0 h') → (∀ q, q ≠ b → hpO h' q = hpO h q) → hpI h' = hpI h → hpR h' = hpR h → K none h') : Vm (d + 1) m_X3_init [vR (some b), vI f, vI t, vL x, vL y] h K := by
  match fs, hl with
  | [f0, f1, f2, f3], _ =>
    refine Vm.intro rfl (Nat.le_of_ble_eq_true rfl) (fun _ => B_X3_init_0 ?_)
    have st : ∀ (h : AbH) (fs : List AbV), hpO (hsO h b (2, fs)) b = some (2, fs) := fun h fs => by rw [hO_O, if_pos rfl]
    have ot : ∀ (h : AbH) (fs : List AbV) q, q ≠ b → hpO (hsO h b (2, fs)) q = hpO h q := fun h fs q hq => by rw [hO_O, if_neg hq]
    refine p_i hb (by show 0 < 4; decide) ?_
    refine p_i (st _ _) (by show 1 < 4; decide) ?_
    refine p_i (st _ _) (by show 2 < 4; decide) ?_
    refine p_i (st _ _) (by show 3 < 4; decide) ?_
    refine kk _ ?_ (fun P h0 X n => (((X.nO n).nO n).nO n).nO n) (fun q hq => by rw [ot _ _ _ hq, ot _ _ _ hq, ot _ _ _ hq, ot _ _ _ hq]) rfl rfl
    rw [st]
    rfl
