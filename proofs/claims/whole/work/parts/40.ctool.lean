/-! steps on any heap whose cells are known -/
theorem gI_i {h : AbH} {a ci j : Nat} {fs : List AbV} {n : Int} {f : Int → Prop} (ho : hpO h a = some (ci, fs)) (hj : fs[j]? = some (vI n)) (hf : f n) : wpGI h (some a) ci j f := ⟨a, fs, n, rfl, ho, hj, hf⟩
theorem gL_i {h : AbH} {a ci j : Nat} {fs : List AbV} {n : Int} {f : Int → Prop} (ho : hpO h a = some (ci, fs)) (hj : fs[j]? = some (vL n)) (hf : f n) : wpGL h (some a) ci j f := ⟨a, fs, n, rfl, ho, hj, hf⟩
theorem gR_i {h : AbH} {a ci j : Nat} {fs : List AbV} {n : Option Nat} {f : Option Nat → Prop} (ho : hpO h a = some (ci, fs)) (hj : fs[j]? = some (vR n)) (hf : f n) : wpGR h (some a) ci j f := ⟨a, fs, n, rfl, ho, hj, hf⟩
theorem p_i {h : AbH} {a ci j : Nat} {fs : List AbV} {v : AbV} {f : AbH → Prop} (ho : hpO h a = some (ci, fs)) (hj : j < fs.length) (hf : f (hsO h a (ci, fs.set j v))) : wpP h (some a) ci j v f := ⟨a, fs, rfl, ho, hj, hf⟩
theorem lI_i {h : AbH} {a n : Nat} {i : Int} {g : Nat → Int} {f : Int → Prop} (ho : hpI h a = some (n, g)) (h1 : 0 ≤ i) (h2 : i < (n : Int)) (hf : f (g i.toNat)) : wpLI h (some a) i f := ⟨a, n, g, rfl, ho, h1, h2, hf⟩
theorem lJ_i {h : AbH} {a n : Nat} {i : Int} {g : Nat → Int} {f : Int → Prop} (ho : hpJ h a = some (n, g)) (h1 : 0 ≤ i) (h2 : i < (n : Int)) (hf : f (g i.toNat)) : wpLJ h (some a) i f := ⟨a, n, g, rfl, ho, h1, h2, hf⟩
theorem lZ_i {h : AbH} {a n : Nat} {i : Int} {g : Nat → Int} {f : Int → Prop} (ho : hpZ h a = some (n, g)) (h1 : 0 ≤ i) (h2 : i < (n : Int)) (hf : f (g i.toNat)) : wpLZ h (some a) i f := ⟨a, n, g, rfl, ho, h1, h2, hf⟩
theorem lR_i {h : AbH} {a k n : Nat} {i : Int} {g : Nat → Option Nat} {f : Option Nat → Prop} (ho : hpR h a = some (k, n, g)) (h1 : 0 ≤ i) (h2 : i < (n : Int)) (hf : f (g i.toNat)) : wpLR h (some a) i f := ⟨a, k, n, g, rfl, ho, h1, h2, hf⟩
theorem nI_i {h : AbH} {a n : Nat} {g : Nat → Int} {f : Int → Prop} (ho : hpI h a = some (n, g)) (hf : f (n : Int)) : wpNI h (some a) f := ⟨a, n, g, rfl, ho, hf⟩
theorem nZ_i {h : AbH} {a n : Nat} {g : Nat → Int} {f : Int → Prop} (ho : hpZ h a = some (n, g)) (hf : f (n : Int)) : wpNZ h (some a) f := ⟨a, n, g, rfl, ho, hf⟩
theorem nR_i {h : AbH} {a k n : Nat} {g : Nat → Option Nat} {f : Int → Prop} (ho : hpR h a = some (k, n, g)) (hf : f (n : Int)) : wpNR h (some a) f := ⟨a, k, n, g, rfl, ho, hf⟩
theorem sR_i {h : AbH} {a k n : Nat} {i : Int} {r : Option Nat} {g : Nat → Option Nat} {f : AbH → Prop} (ho : hpR h a = some (k, n, g)) (h1 : 0 ≤ i) (h2 : i < (n : Int)) (hr : ∀ b, r = some b → ∃ fs, hpO h b = some (k, fs)) (hf : f (hsR h a (k, n, va_up g i.toNat r))) : wpSR h (some a) i r f := ⟨a, k, n, g, rfl, ho, h1, h2, hr, hf⟩
theorem cv_i {h : AbH} {a ci : Nat} {fs : List AbV} {f : Nat → Prop} (ho : hpO h a = some (ci, fs)) (hf : f a) : wpCV h (some a) ci f := ⟨a, fs, rfl, ho, hf⟩
/-- what stands in h outside P stands in h' -/
def Xt (P : Nat → Prop) (h h' : AbH) : Prop := (∀ q, ¬ P q → (∀ c, hpO h q = some c → hpO h' q = some c) ∧ (∀ c, hpI h q = some c → hpI h' q = some c) ∧ (∀ c, hpJ h q = some c → hpJ h' q = some c) ∧ (∀ c, hpZ h q = some c → hpZ h' q = some c) ∧ (∀ c, hpR h q = some c → hpR h' q = some c)) ∧ hpX h' = hpX h ∧ hpS h' = hpS h ∧ hpB h' = hpB h ∧ ∀ q, ab_new h' q → ab_new h q
theorem Xt.rf {P : Nat → Prop} {h : AbH} : Xt P h h := ⟨fun _ _ => ⟨fun _ e => e, fun _ e => e, fun _ e => e, fun _ e => e, fun _ e => e⟩, rfl, rfl, rfl, fun _ z => z⟩
theorem Xt.tr {P : Nat → Prop} {h h' h'' : AbH} (a : Xt P h h') (b : Xt P h' h'') : Xt P h h'' := ⟨fun q hq => by
  obtain ⟨a1, a2, a3, a4, a5⟩ := a.1 q hq
  obtain ⟨b1, b2, b3, b4, b5⟩ := b.1 q hq
  exact ⟨fun c e => b1 c (a1 c e), fun c e => b2 c (a2 c e), fun c e => b3 c (a3 c e), fun c e => b4 c (a4 c e), fun c e => b5 c (a5 c e)⟩, b.2.1.trans a.2.1, b.2.2.1.trans a.2.2.1, b.2.2.2.1.trans a.2.2.2.1, fun q z => a.2.2.2.2 q (b.2.2.2.2 q z)⟩
theorem Xt.mono {P Q : Nat → Prop} {h h' : AbH} (a : Xt P h h') (hs : ∀ q, P q → Q q) : Xt Q h h' := ⟨fun q hq => a.1 q (fun z => hq (hs q z)), a.2⟩
theorem Xt.O {P : Nat → Prop} {h h' : AbH} (x : Xt P h h') {q : Nat} {c : Nat × List AbV} (hq : ¬ P q) (e : hpO h q = some c) : hpO h' q = some c := (x.1 q hq).1 c e
theorem Xt.I {P : Nat → Prop} {h h' : AbH} (x : Xt P h h') {q : Nat} {c : Nat × (Nat → Int)} (hq : ¬ P q) (e : hpI h q = some c) : hpI h' q = some c := (x.1 q hq).2.1 c e
theorem Xt.J {P : Nat → Prop} {h h' : AbH} (x : Xt P h h') {q : Nat} {c : Nat × (Nat → Int)} (hq : ¬ P q) (e : hpJ h q = some c) : hpJ h' q = some c := (x.1 q hq).2.2.1 c e
theorem Xt.Z {P : Nat → Prop} {h h' : AbH} (x : Xt P h h') {q : Nat} {c : Nat × (Nat → Int)} (hq : ¬ P q) (e : hpZ h q = some c) : hpZ h' q = some c := (x.1 q hq).2.2.2.1 c e
theorem Xt.R {P : Nat → Prop} {h h' : AbH} (x : Xt P h h') {q : Nat} {c : Nat × Nat × (Nat → Option Nat)} (hq : ¬ P q) (e : hpR h q = some c) : hpR h' q = some c := (x.1 q hq).2.2.2.2 c e
theorem nn_O {h : AbH} {a q : Nat} {c : Nat × List AbV} (z : hpO (hsO h a c) q = none) : hpO h q = none := by
  rw [hO_O] at z
  by_cases e : q = a
  · rw [if_pos e] at z; cases z
  · rw [if_neg e] at z; exact z
theorem xt_O {P : Nat → Prop} {h : AbH} {a : Nat} {c : Nat × List AbV} (hp : P a ∨ hpO h a = none) : Xt P h (hsO h a c) := ⟨fun q hq => ⟨fun c' e => by
  rw [hO_O]
  by_cases z : q = a
  · subst z
    rcases hp with hp | hp
    · exact absurd hp hq
    · rw [hp] at e; cases e
  · rw [if_neg z]; exact e, fun _ e => e, fun _ e => e, fun _ e => e, fun _ e => e⟩, rfl, rfl, rfl, fun _ z => ⟨nn_O z.1, z.2.1, z.2.2.1, z.2.2.2.1, z.2.2.2.2⟩⟩
theorem nn_I {h : AbH} {a q : Nat} {c : Nat × (Nat → Int)} (z : hpI (hsI h a c) q = none) : hpI h q = none := by
  rw [hI_I] at z
  by_cases e : q = a
  · rw [if_pos e] at z; cases z
  · rw [if_neg e] at z; exact z
theorem xt_I {P : Nat → Prop} {h : AbH} {a : Nat} {c : Nat × (Nat → Int)} (hp : P a ∨ hpI h a = none) : Xt P h (hsI h a c) := ⟨fun q hq => ⟨fun _ e => e, fun c' e => by
  rw [hI_I]
  by_cases z : q = a
  · subst z
    rcases hp with hp | hp
    · exact absurd hp hq
    · rw [hp] at e; cases e
  · rw [if_neg z]; exact e, fun _ e => e, fun _ e => e, fun _ e => e⟩, rfl, rfl, rfl, fun _ z => ⟨z.1, nn_I z.2.1, z.2.2.1, z.2.2.2.1, z.2.2.2.2⟩⟩
theorem nn_J {h : AbH} {a q : Nat} {c : Nat × (Nat → Int)} (z : hpJ (hsJ h a c) q = none) : hpJ h q = none := by
  rw [hJ_J] at z
  by_cases e : q = a
  · rw [if_pos e] at z; cases z
  · rw [if_neg e] at z; exact z
theorem xt_J {P : Nat → Prop} {h : AbH} {a : Nat} {c : Nat × (Nat → Int)} (hp : P a ∨ hpJ h a = none) : Xt P h (hsJ h a c) := ⟨fun q hq => ⟨fun _ e => e, fun _ e => e, fun c' e => by
  rw [hJ_J]
  by_cases z : q = a
  · subst z
    rcases hp with hp | hp
    · exact absurd hp hq
    · rw [hp] at e; cases e
  · rw [if_neg z]; exact e, fun _ e => e, fun _ e => e⟩, rfl, rfl, rfl, fun _ z => ⟨z.1, z.2.1, nn_J z.2.2.1, z.2.2.2.1, z.2.2.2.2⟩⟩
theorem nn_Z {h : AbH} {a q : Nat} {c : Nat × (Nat → Int)} (z : hpZ (hsZ h a c) q = none) : hpZ h q = none := by
  rw [hZ_Z] at z
  by_cases e : q = a
  · rw [if_pos e] at z; cases z
  · rw [if_neg e] at z; exact z
theorem xt_Z {P : Nat → Prop} {h : AbH} {a : Nat} {c : Nat × (Nat → Int)} (hp : P a ∨ hpZ h a = none) : Xt P h (hsZ h a c) := ⟨fun q hq => ⟨fun _ e => e, fun _ e => e, fun _ e => e, fun c' e => by
  rw [hZ_Z]
  by_cases z : q = a
  · subst z
    rcases hp with hp | hp
    · exact absurd hp hq
    · rw [hp] at e; cases e
  · rw [if_neg z]; exact e, fun _ e => e⟩, rfl, rfl, rfl, fun _ z => ⟨z.1, z.2.1, z.2.2.1, nn_Z z.2.2.2.1, z.2.2.2.2⟩⟩
theorem nn_R {h : AbH} {a q : Nat} {c : Nat × Nat × (Nat → Option Nat)} (z : hpR (hsR h a c) q = none) : hpR h q = none := by
  rw [hR_R] at z
  by_cases e : q = a
  · rw [if_pos e] at z; cases z
  · rw [if_neg e] at z; exact z
theorem xt_R {P : Nat → Prop} {h : AbH} {a : Nat} {c : Nat × Nat × (Nat → Option Nat)} (hp : P a ∨ hpR h a = none) : Xt P h (hsR h a c) := ⟨fun q hq => ⟨fun _ e => e, fun _ e => e, fun _ e => e, fun _ e => e, fun c' e => by
  rw [hR_R]
  by_cases z : q = a
  · subst z
    rcases hp with hp | hp
    · exact absurd hp hq
    · rw [hp] at e; cases e
  · rw [if_neg z]; exact e⟩, rfl, rfl, rfl, fun _ z => ⟨z.1, z.2.1, z.2.2.1, z.2.2.2.1, nn_R z.2.2.2.2⟩⟩
/-! forms as numbers -/
def enc : List Int → Nat
  | [] => 0
  | s :: l => (s.toNat + 1) + 32 * enc l
theorem fV_tl {s : Int} {l : List Int} (h : fV (s :: l)) : fV l ∧ 0 ≤ s ∧ s ≤ 25 := by
  refine ⟨⟨by have := h.1; simp at this; omega, fun i hi => ?_⟩, ?_⟩
  · have := h.2 (i + 1) (by simp; omega)
    simpa using this
  · have := h.2 0 (by simp)
    simpa using this
theorem enc_lt : ∀ (l : List Int), fV l → enc l < 32 ^ l.length
  | [], _ => by decide
  | s :: l, h => by
    obtain ⟨h1, h2⟩ := fV_tl h
    have := enc_lt l h1
    show (s.toNat + 1) + 32 * enc l < 32 ^ (l.length + 1)
    rw [Nat.pow_succ]
    omega
theorem enc_at : ∀ (l : List Int), fV l → ∀ i, enc l / 32 ^ i % 32 = if i < l.length then (l.getD i 0).toNat + 1 else 0
  | [], _, i => by
    show 0 / 32 ^ i % 32 = _
    rw [Nat.zero_div, if_neg (by simp)]
  | s :: l, h, 0 => by
    obtain ⟨h1, h2⟩ := fV_tl h
    show ((s.toNat + 1) + 32 * enc l) / 1 % 32 = _
    rw [if_pos (by simp), Nat.div_one]
    show _ = s.toNat + 1
    omega
  | s :: l, h, i + 1 => by
    obtain ⟨h1, h2⟩ := fV_tl h
    have ih := enc_at l h1 i
    show ((s.toNat + 1) + 32 * enc l) / 32 ^ (i + 1) % 32 = _
    have e : (32 : Nat) ^ (i + 1) = 32 * 32 ^ i := by rw [Nat.pow_succ, Nat.mul_comm]
    rw [e, ← Nat.div_div_eq_div_mul, show ((s.toNat + 1) + 32 * enc l) / 32 = enc l by omega, ih]
    simp
theorem enc_inj : ∀ (l l' : List Int), fV l → fV l' → enc l = enc l' → l = l'
  | [], [], _, _, _ => rfl
  | [], s :: l', _, _, h => absurd h (by show 0 ≠ (s.toNat + 1) + 32 * enc l'; omega)
  | s :: l, [], _, _, h => absurd h (by show (s.toNat + 1) + 32 * enc l ≠ 0; omega)
  | s :: l, s' :: l', h1, h2, h => by
    obtain ⟨a1, a2⟩ := fV_tl h1
    obtain ⟨b1, b2⟩ := fV_tl h2
    have h : (s.toNat + 1) + 32 * enc l = (s'.toNat + 1) + 32 * enc l' := h
    have e1 : s = s' := by omega
    have e2 : enc l = enc l' := by omega
    rw [e1, enc_inj l l' a1 b1 e2]
theorem enc_app : ∀ (l : List Int) (s : Int), enc (l ++ [s]) = enc l + (s.toNat + 1) * 32 ^ l.length
  | [], s => by show (s.toNat + 1) + 32 * 0 = 0 + (s.toNat + 1) * 1; omega
  | t :: l, s => by
    have ih := enc_app l s
    show (t.toNat + 1) + 32 * enc (l ++ [s]) = (t.toNat + 1) + 32 * enc l + (s.toNat + 1) * 32 ^ (l.length + 1)
    have e : (s.toNat + 1) * (32 ^ l.length * 32) = 32 * ((s.toNat + 1) * 32 ^ l.length) := by rw [← Nat.mul_assoc, Nat.mul_comm]
    rw [ih, Nat.pow_succ, e]
    omega
theorem enc_b {l : List Int} (h : fV l) : (enc l : Int) < 1125899906842624 := by
  have h1 := enc_lt l h
  have h2 : 32 ^ l.length ≤ 32 ^ 10 := Nat.pow_le_pow_right (by decide) h.1
  have h3 : (32 : Nat) ^ 10 = 1125899906842624 := by decide
  omega
def sAt (l : List Int) (i : Int) : Int := if 0 ≤ i ∧ i < l.length then l.getD i.toNat 0 else -1
set_option maxRecDepth 100000 in
set_option maxHeartbeats 4000000 in
theorem cc_soundAt {d : Nat} {h : AbH} {K : Option AbV → AbH → Prop} {l : List Int} {i : Int} (hl : fV l) (kk : K (some (vI (sAt l i))) h) : Vm (d + 1) m_X0_soundAt [vL (enc l : Int), vI i] h K := by
  refine Vm.intro rfl (Nat.le_of_ble_eq_true rfl) (fun _ => B_X0_soundAt_0 ?_)
  have h10 := hl.1
  have bad : ¬ (0 ≤ i ∧ i < l.length) → K (some (vI (-1))) h := fun c => by unfold sAt at kk; rw [if_neg c] at kk; exact kk
  refine ⟨fun c => bad (by omega), fun c => ⟨fun c2 => ?_, fun c2 => bad (by omega)⟩⟩
  obtain ⟨i, rfl⟩ := Int.eq_ofNat_of_zero_le (show 0 ≤ i by omega)
  have e1 : (enc l : Int) / 2 ^ ((5 * (i : Int))).toNat = ((enc l / 32 ^ i : Nat) : Int) := by
    rw [show (5 * (i : Int)).toNat = 5 * i by omega]
    have : (2 : Int) ^ (5 * i) = ((32 ^ i : Nat) : Int) := by
      rw [show (32 : Nat) = 2 ^ 5 from rfl, ← Nat.pow_mul]
      simp
    rw [this]
    rfl
  have e3 := enc_at l hl i
  obtain ⟨X, hX⟩ : ∃ X, X = enc l / 32 ^ i := ⟨_, rfl⟩
  rw [← hX] at e1 e3
  rw [e1, Int.toNat_natCast]
  have e2 : X &&& (31 : Int).toNat = X % 32 := Nat.and_two_pow_sub_one_eq_mod X 5
  rw [e2, e3]
  refine ⟨i3 (by omega) (by omega), ⟨by omega, by omega, by omega⟩, ⟨by omega, by omega⟩, ?_⟩
  by_cases q : i < l.length
  · rw [if_pos q]
    have := hl.2 i q
    unfold sAt at kk
    rw [if_pos (by omega), Int.toNat_natCast] at kk
    refine ⟨i3 (by omega) (by omega), i3 (by omega) (by omega), ?_⟩
    rw [show (((l.getD i 0).toNat + 1 : Nat) : Int) - 1 = l.getD i 0 by omega]
    exact kk
  · rw [if_neg q]
    exact ⟨i3 (by decide) (by decide), i3 (by decide) (by decide), bad (by omega)⟩
set_option maxRecDepth 100000 in
set_option maxHeartbeats 4000000 in
theorem cc_length {d : Nat} {h : AbH} {K : Option AbV → AbH → Prop} {l : List Int} (hl : fV l) (kk : K (some (vI (l.length : Int))) h) : Vm (d + 2) m_X0_length [vL (enc l : Int)] h K := by
  have h10 := hl.1
  refine Vm.intro rfl (Nat.le_of_ble_eq_true rfl) (fun _ => B_X0_length_0 ?_)
  refine lp_up (P := fun i => Vx (d + 2) m_X0_length 0 0 2 [some (vL (enc l : Int)), none, some (vI (i : Int))] [] h K) (n := l.length) ?_ ?_ 0 (by omega)
  · refine B_X0_length_2 ⟨fun _ => kk, fun _ => ?_⟩
    refine cc_soundAt hl ?_
    simp only [kI_some, kL_some, kR_some, kV_none, ne_eq, not_true_eq_false, not_false_eq_true, true_implies, false_implies, implies_true, true_and, and_true, ab_z01, or_true, true_or, reduceCtorEq, Option.some.injEq, Int.reduceEq, Int.reduceNe, Int.reduceLT, Int.reduceLE, Int.reduceNeg, Int.reduceAdd, Int.reduceSub, Int.reduceMul, Nat.reduceEqDiff, Nat.reduceAdd, Nat.reduceMul, Int.reduceToNat, ↓reduceIte]
    unfold sAt
    rw [if_neg (by omega)]
    exact ⟨fun _ => kk, fun c => absurd rfl c⟩
  · intro i hi ih
    refine B_X0_length_2 ⟨fun c => absurd c (by omega), fun _ => ?_⟩
    refine cc_soundAt hl ?_
    simp only [kI_some, kL_some, kR_some, kV_none, ne_eq, not_true_eq_false, not_false_eq_true, true_implies, false_implies, implies_true, true_and, and_true, ab_z01, or_true, true_or, reduceCtorEq, Option.some.injEq, Int.reduceEq, Int.reduceNe, Int.reduceLT, Int.reduceLE, Int.reduceNeg, Int.reduceAdd, Int.reduceSub, Int.reduceMul, Nat.reduceEqDiff, Nat.reduceAdd, Nat.reduceMul, Int.reduceToNat, ↓reduceIte]
    unfold sAt
    rw [if_pos (by omega), Int.toNat_natCast]
    have := hl.2 i hi
    exact ⟨fun c => absurd c (by omega), fun _ => ⟨i3 (by omega) (by omega), ih⟩⟩
set_option maxRecDepth 100000 in
set_option maxHeartbeats 4000000 in
theorem cc_longer {d : Nat} {h : AbH} {K : Option AbV → AbH → Prop} {l : List Int} {s : Int} (hl : fV l) (h9 : l.length ≤ 9) (hs : 0 ≤ s ∧ s ≤ 25) (kk : K (some (vL (enc (l ++ [s]) : Int))) h) : Vm (d + 1) m_X0_longer [vL (enc l : Int), vI (l.length : Int), vI s] h K := by
  refine Vm.intro rfl (Nat.le_of_ble_eq_true rfl) (fun _ => B_X0_longer_0 ?_)
  have e1 : (s + 1) * 2 ^ (5 * (l.length : Int)).toNat = (((s.toNat + 1) * 32 ^ l.length : Nat) : Int) := by
    rw [show (5 * (l.length : Int)).toNat = 5 * l.length by omega]
    have : (2 : Int) ^ (5 * l.length) = ((32 ^ l.length : Nat) : Int) := by
      rw [show (32 : Nat) = 2 ^ 5 from rfl, ← Nat.pow_mul]
      simp
    rw [this, Int.natCast_mul]
    rw [show ((s.toNat + 1 : Nat) : Int) = s + 1 by omega]
  rw [e1, Int.toNat_natCast, Int.toNat_natCast]
  have h1 := enc_lt l hl
  have h2 : 32 ^ l.length ≤ 32 ^ 9 := Nat.pow_le_pow_right (by decide) h9
  have h3 : (32 : Nat) ^ 9 = 35184372088832 := by decide
  have h4 : (s.toNat + 1) * 32 ^ l.length ≤ 26 * 35184372088832 := Nat.mul_le_mul (by omega) (by omega)
  have e2 : enc l ||| (s.toNat + 1) * 32 ^ l.length = enc (l ++ [s]) := by
    rw [enc_app, Nat.or_comm, Nat.mul_comm]
    have h5 : (32 : Nat) ^ l.length = 2 ^ (5 * l.length) := by rw [Nat.pow_mul]
    rw [h5] at h1 ⊢
    rw [← Nat.two_pow_add_eq_or_of_lt h1, Nat.mul_comm, Nat.add_comm]
  rw [e2]
  exact ⟨i3 (by omega) (by omega), i3 (by omega) (by omega), ⟨by omega, by omega, by omega⟩, ⟨by omega, by omega⟩, ⟨by omega, by omega⟩, kk⟩
