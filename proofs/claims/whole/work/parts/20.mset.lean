theorem kI_some {f : Int → AbH → Prop} {n : Int} {h : AbH} : kI f (some (vI n)) h = f n h := propext ⟨fun ⟨_, e, q⟩ => by cases e; exact q, fun q => ⟨n, rfl, q⟩⟩
theorem kL_some {f : Int → AbH → Prop} {n : Int} {h : AbH} : kL f (some (vL n)) h = f n h := propext ⟨fun ⟨_, e, q⟩ => by cases e; exact q, fun q => ⟨n, rfl, q⟩⟩
theorem kR_some {f : Option Nat → AbH → Prop} {n : Option Nat} {h : AbH} : kR f (some (vR n)) h = f n h := propext ⟨fun ⟨_, e, q⟩ => by cases e; exact q, fun q => ⟨n, rfl, q⟩⟩
theorem kV_none {f : AbH → Prop} {h : AbH} : kV f none h = f h := propext ⟨fun ⟨_, q⟩ => q, fun q => ⟨rfl, q⟩⟩
theorem vu_app {α : Type} {f : Nat → α} {k : Nat} {v : α} {j : Nat} : va_up f k v j = if j = k then v else f j := rfl
theorem vu_same {α : Type} {f : Nat → α} {k : Nat} {v : α} : va_up f k v k = v := by rw [vu_app, if_pos rfl]
theorem vu_ne {α : Type} {f : Nat → α} {k j : Nat} {v : α} (h : j ≠ k) : va_up f k v j = f j := by rw [vu_app, if_neg h]
theorem vu_self {α : Type} {f : Nat → α} {k : Nat} : va_up f k (f k) = f := by
  funext j
  rw [vu_app]
  split
  next e => rw [e]
  next => rfl
theorem vu_up {α : Type} {f : Nat → α} {k : Nat} {v w : α} : va_up (va_up f k v) k w = va_up f k w := by
  funext j
  rw [vu_app, vu_app, vu_app]
  split <;> rfl
/-- a loop that counts up: it holds at its head if it holds behind it, and each turn keeps it -/
theorem lp_up {P : Nat → Prop} {n : Nat} (hn : P n) (hs : ∀ i, i < n → P (i + 1) → P i) : ∀ a, a ≤ n → P a := by
  intro a ha
  obtain ⟨k, rfl⟩ : ∃ k, n = a + k := ⟨n - a, by omega⟩
  clear ha
  induction k generalizing a with
  | zero => exact hn
  | succ k ih =>
    refine hs a (by omega) (ih (a + 1) ?_ ?_)
    · rw [show a + 1 + k = a + (k + 1) by omega]; exact hn
    · intro i hi; exact hs i (by omega)
theorem hO_O {h : AbH} {a q : Nat} {c : Nat × List AbV} : hpO (hsO h a c) q = if q = a then some c else hpO h q := rfl
theorem hI_I {h : AbH} {a q : Nat} {c : Nat × (Nat → Int)} : hpI (hsI h a c) q = if q = a then some c else hpI h q := rfl
theorem hJ_J {h : AbH} {a q : Nat} {c : Nat × (Nat → Int)} : hpJ (hsJ h a c) q = if q = a then some c else hpJ h q := rfl
theorem hZ_Z {h : AbH} {a q : Nat} {c : Nat × (Nat → Int)} : hpZ (hsZ h a c) q = if q = a then some c else hpZ h q := rfl
theorem hR_R {h : AbH} {a q : Nat} {c : Nat × Nat × (Nat → Option Nat)} : hpR (hsR h a c) q = if q = a then some c else hpR h q := rfl
theorem hI_O {h : AbH} {a : Nat} {c : Nat × List AbV} : hpI (hsO h a c) = hpI h := rfl
theorem hJ_O {h : AbH} {a : Nat} {c : Nat × List AbV} : hpJ (hsO h a c) = hpJ h := rfl
theorem hZ_O {h : AbH} {a : Nat} {c : Nat × List AbV} : hpZ (hsO h a c) = hpZ h := rfl
theorem hR_O {h : AbH} {a : Nat} {c : Nat × List AbV} : hpR (hsO h a c) = hpR h := rfl
theorem hX_O {h : AbH} {a : Nat} {c : Nat × List AbV} : hpX (hsO h a c) = hpX h := rfl
theorem hS_O {h : AbH} {a : Nat} {c : Nat × List AbV} : hpS (hsO h a c) = hpS h := rfl
theorem hB_O {h : AbH} {a : Nat} {c : Nat × List AbV} : hpB (hsO h a c) = hpB h := rfl
theorem hO_I {h : AbH} {a : Nat} {c : Nat × (Nat → Int)} : hpO (hsI h a c) = hpO h := rfl
theorem hJ_I {h : AbH} {a : Nat} {c : Nat × (Nat → Int)} : hpJ (hsI h a c) = hpJ h := rfl
theorem hZ_I {h : AbH} {a : Nat} {c : Nat × (Nat → Int)} : hpZ (hsI h a c) = hpZ h := rfl
theorem hR_I {h : AbH} {a : Nat} {c : Nat × (Nat → Int)} : hpR (hsI h a c) = hpR h := rfl
theorem hX_I {h : AbH} {a : Nat} {c : Nat × (Nat → Int)} : hpX (hsI h a c) = hpX h := rfl
theorem hS_I {h : AbH} {a : Nat} {c : Nat × (Nat → Int)} : hpS (hsI h a c) = hpS h := rfl
theorem hB_I {h : AbH} {a : Nat} {c : Nat × (Nat → Int)} : hpB (hsI h a c) = hpB h := rfl
theorem hO_J {h : AbH} {a : Nat} {c : Nat × (Nat → Int)} : hpO (hsJ h a c) = hpO h := rfl
theorem hI_J {h : AbH} {a : Nat} {c : Nat × (Nat → Int)} : hpI (hsJ h a c) = hpI h := rfl
theorem hZ_J {h : AbH} {a : Nat} {c : Nat × (Nat → Int)} : hpZ (hsJ h a c) = hpZ h := rfl
theorem hR_J {h : AbH} {a : Nat} {c : Nat × (Nat → Int)} : hpR (hsJ h a c) = hpR h := rfl
theorem hX_J {h : AbH} {a : Nat} {c : Nat × (Nat → Int)} : hpX (hsJ h a c) = hpX h := rfl
theorem hS_J {h : AbH} {a : Nat} {c : Nat × (Nat → Int)} : hpS (hsJ h a c) = hpS h := rfl
theorem hB_J {h : AbH} {a : Nat} {c : Nat × (Nat → Int)} : hpB (hsJ h a c) = hpB h := rfl
theorem hO_Z {h : AbH} {a : Nat} {c : Nat × (Nat → Int)} : hpO (hsZ h a c) = hpO h := rfl
theorem hI_Z {h : AbH} {a : Nat} {c : Nat × (Nat → Int)} : hpI (hsZ h a c) = hpI h := rfl
theorem hJ_Z {h : AbH} {a : Nat} {c : Nat × (Nat → Int)} : hpJ (hsZ h a c) = hpJ h := rfl
theorem hR_Z {h : AbH} {a : Nat} {c : Nat × (Nat → Int)} : hpR (hsZ h a c) = hpR h := rfl
theorem hX_Z {h : AbH} {a : Nat} {c : Nat × (Nat → Int)} : hpX (hsZ h a c) = hpX h := rfl
theorem hS_Z {h : AbH} {a : Nat} {c : Nat × (Nat → Int)} : hpS (hsZ h a c) = hpS h := rfl
theorem hB_Z {h : AbH} {a : Nat} {c : Nat × (Nat → Int)} : hpB (hsZ h a c) = hpB h := rfl
theorem hO_R {h : AbH} {a : Nat} {c : Nat × Nat × (Nat → Option Nat)} : hpO (hsR h a c) = hpO h := rfl
theorem hI_R {h : AbH} {a : Nat} {c : Nat × Nat × (Nat → Option Nat)} : hpI (hsR h a c) = hpI h := rfl
theorem hJ_R {h : AbH} {a : Nat} {c : Nat × Nat × (Nat → Option Nat)} : hpJ (hsR h a c) = hpJ h := rfl
theorem hZ_R {h : AbH} {a : Nat} {c : Nat × Nat × (Nat → Option Nat)} : hpZ (hsR h a c) = hpZ h := rfl
theorem hX_R {h : AbH} {a : Nat} {c : Nat × Nat × (Nat → Option Nat)} : hpX (hsR h a c) = hpX h := rfl
theorem hS_R {h : AbH} {a : Nat} {c : Nat × Nat × (Nat → Option Nat)} : hpS (hsR h a c) = hpS h := rfl
theorem hB_R {h : AbH} {a : Nat} {c : Nat × Nat × (Nat → Option Nat)} : hpB (hsR h a c) = hpB h := rfl
def mF (ad : Nat → Nat) (sc : Nat → Int) : List AbV := [vR (some (ad 0)), vI (sc 1), vR (some (ad 2)), vR (some (ad 3)), vI (sc 4), vI (sc 5), vI (sc 6), vR (some (ad 7)), vI (sc 8), vI (sc 9), vI (sc 10), vI (sc 11), vR (some (ad 12)), vR (some (ad 13)), vR (some (ad 14)), vI (sc 15), vR (some (ad 16)), vR (some (ad 17)), vR (some (ad 18)), vR (some (ad 19)), vR (some (ad 20)), vR (some (ad 21)), vI (sc 22)]
def mH (h : AbH) (m : Nat) (ad : Nat → Nat) (sc : Nat → Int) (ar : Nat → Nat → Int) : AbH := (fun q => if q = m then some (9, mF ad sc) else hpO h q, fun q => if q = ad 0 then some (4334, ar 0) else if q = ad 3 then some (200, ar 3) else if q = ad 12 then some (6, ar 12) else if q = ad 13 then some (16, ar 13) else if q = ad 14 then some (10, ar 14) else if q = ad 16 then some (10, ar 16) else if q = ad 17 then some (12, ar 17) else if q = ad 18 then some (12, ar 18) else if q = ad 19 then some (12, ar 19) else if q = ad 20 then some (3, ar 20) else if q = ad 21 then some (40, ar 21) else hpI h q, h.2.2.1, fun q => if q = ad 2 then some (2, ar 2) else if q = ad 7 then some (400, ar 7) else hpZ h q, h.2.2.2.2)
theorem mH_O {h : AbH} {m : Nat} {ad : Nat → Nat} {sc : Nat → Int} {ar : Nat → Nat → Int} {q : Nat} : hpO (mH h m ad sc ar) q = if q = m then some (9, mF ad sc) else hpO h q := rfl
theorem mH_I {h : AbH} {m : Nat} {ad : Nat → Nat} {sc : Nat → Int} {ar : Nat → Nat → Int} {q : Nat} : hpI (mH h m ad sc ar) q = if q = ad 0 then some (4334, ar 0) else if q = ad 3 then some (200, ar 3) else if q = ad 12 then some (6, ar 12) else if q = ad 13 then some (16, ar 13) else if q = ad 14 then some (10, ar 14) else if q = ad 16 then some (10, ar 16) else if q = ad 17 then some (12, ar 17) else if q = ad 18 then some (12, ar 18) else if q = ad 19 then some (12, ar 19) else if q = ad 20 then some (3, ar 20) else if q = ad 21 then some (40, ar 21) else hpI h q := rfl
theorem mH_Z {h : AbH} {m : Nat} {ad : Nat → Nat} {sc : Nat → Int} {ar : Nat → Nat → Int} {q : Nat} : hpZ (mH h m ad sc ar) q = if q = ad 2 then some (2, ar 2) else if q = ad 7 then some (400, ar 7) else hpZ h q := rfl
/-- the rows' addresses differ -/
def mA (ad : Nat → Nat) : Prop := (∀ i ∈ ([0, 3, 12, 13, 14, 16, 17, 18, 19, 20, 21] : List Nat), ∀ j ∈ ([0, 3, 12, 13, 14, 16, 17, 18, 19, 20, 21] : List Nat), ad i = ad j → i = j) ∧ ad 2 ≠ ad 7
theorem mN_0_3 {ad : Nat → Nat} (hA : mA ad) : ¬ ad 0 = ad 3 := fun e => absurd (hA.1 0 (by decide) 3 (by decide) e) (by decide)
theorem mN_0_12 {ad : Nat → Nat} (hA : mA ad) : ¬ ad 0 = ad 12 := fun e => absurd (hA.1 0 (by decide) 12 (by decide) e) (by decide)
theorem mN_0_13 {ad : Nat → Nat} (hA : mA ad) : ¬ ad 0 = ad 13 := fun e => absurd (hA.1 0 (by decide) 13 (by decide) e) (by decide)
theorem mN_0_14 {ad : Nat → Nat} (hA : mA ad) : ¬ ad 0 = ad 14 := fun e => absurd (hA.1 0 (by decide) 14 (by decide) e) (by decide)
theorem mN_0_16 {ad : Nat → Nat} (hA : mA ad) : ¬ ad 0 = ad 16 := fun e => absurd (hA.1 0 (by decide) 16 (by decide) e) (by decide)
theorem mN_0_17 {ad : Nat → Nat} (hA : mA ad) : ¬ ad 0 = ad 17 := fun e => absurd (hA.1 0 (by decide) 17 (by decide) e) (by decide)
theorem mN_0_18 {ad : Nat → Nat} (hA : mA ad) : ¬ ad 0 = ad 18 := fun e => absurd (hA.1 0 (by decide) 18 (by decide) e) (by decide)
theorem mN_0_19 {ad : Nat → Nat} (hA : mA ad) : ¬ ad 0 = ad 19 := fun e => absurd (hA.1 0 (by decide) 19 (by decide) e) (by decide)
theorem mN_0_20 {ad : Nat → Nat} (hA : mA ad) : ¬ ad 0 = ad 20 := fun e => absurd (hA.1 0 (by decide) 20 (by decide) e) (by decide)
theorem mN_0_21 {ad : Nat → Nat} (hA : mA ad) : ¬ ad 0 = ad 21 := fun e => absurd (hA.1 0 (by decide) 21 (by decide) e) (by decide)
theorem mN_3_0 {ad : Nat → Nat} (hA : mA ad) : ¬ ad 3 = ad 0 := fun e => absurd (hA.1 3 (by decide) 0 (by decide) e) (by decide)
theorem mN_3_12 {ad : Nat → Nat} (hA : mA ad) : ¬ ad 3 = ad 12 := fun e => absurd (hA.1 3 (by decide) 12 (by decide) e) (by decide)
theorem mN_3_13 {ad : Nat → Nat} (hA : mA ad) : ¬ ad 3 = ad 13 := fun e => absurd (hA.1 3 (by decide) 13 (by decide) e) (by decide)
theorem mN_3_14 {ad : Nat → Nat} (hA : mA ad) : ¬ ad 3 = ad 14 := fun e => absurd (hA.1 3 (by decide) 14 (by decide) e) (by decide)
theorem mN_3_16 {ad : Nat → Nat} (hA : mA ad) : ¬ ad 3 = ad 16 := fun e => absurd (hA.1 3 (by decide) 16 (by decide) e) (by decide)
theorem mN_3_17 {ad : Nat → Nat} (hA : mA ad) : ¬ ad 3 = ad 17 := fun e => absurd (hA.1 3 (by decide) 17 (by decide) e) (by decide)
theorem mN_3_18 {ad : Nat → Nat} (hA : mA ad) : ¬ ad 3 = ad 18 := fun e => absurd (hA.1 3 (by decide) 18 (by decide) e) (by decide)
theorem mN_3_19 {ad : Nat → Nat} (hA : mA ad) : ¬ ad 3 = ad 19 := fun e => absurd (hA.1 3 (by decide) 19 (by decide) e) (by decide)
theorem mN_3_20 {ad : Nat → Nat} (hA : mA ad) : ¬ ad 3 = ad 20 := fun e => absurd (hA.1 3 (by decide) 20 (by decide) e) (by decide)
theorem mN_3_21 {ad : Nat → Nat} (hA : mA ad) : ¬ ad 3 = ad 21 := fun e => absurd (hA.1 3 (by decide) 21 (by decide) e) (by decide)
theorem mN_12_0 {ad : Nat → Nat} (hA : mA ad) : ¬ ad 12 = ad 0 := fun e => absurd (hA.1 12 (by decide) 0 (by decide) e) (by decide)
theorem mN_12_3 {ad : Nat → Nat} (hA : mA ad) : ¬ ad 12 = ad 3 := fun e => absurd (hA.1 12 (by decide) 3 (by decide) e) (by decide)
theorem mN_12_13 {ad : Nat → Nat} (hA : mA ad) : ¬ ad 12 = ad 13 := fun e => absurd (hA.1 12 (by decide) 13 (by decide) e) (by decide)
theorem mN_12_14 {ad : Nat → Nat} (hA : mA ad) : ¬ ad 12 = ad 14 := fun e => absurd (hA.1 12 (by decide) 14 (by decide) e) (by decide)
theorem mN_12_16 {ad : Nat → Nat} (hA : mA ad) : ¬ ad 12 = ad 16 := fun e => absurd (hA.1 12 (by decide) 16 (by decide) e) (by decide)
theorem mN_12_17 {ad : Nat → Nat} (hA : mA ad) : ¬ ad 12 = ad 17 := fun e => absurd (hA.1 12 (by decide) 17 (by decide) e) (by decide)
theorem mN_12_18 {ad : Nat → Nat} (hA : mA ad) : ¬ ad 12 = ad 18 := fun e => absurd (hA.1 12 (by decide) 18 (by decide) e) (by decide)
theorem mN_12_19 {ad : Nat → Nat} (hA : mA ad) : ¬ ad 12 = ad 19 := fun e => absurd (hA.1 12 (by decide) 19 (by decide) e) (by decide)
theorem mN_12_20 {ad : Nat → Nat} (hA : mA ad) : ¬ ad 12 = ad 20 := fun e => absurd (hA.1 12 (by decide) 20 (by decide) e) (by decide)
theorem mN_12_21 {ad : Nat → Nat} (hA : mA ad) : ¬ ad 12 = ad 21 := fun e => absurd (hA.1 12 (by decide) 21 (by decide) e) (by decide)
theorem mN_13_0 {ad : Nat → Nat} (hA : mA ad) : ¬ ad 13 = ad 0 := fun e => absurd (hA.1 13 (by decide) 0 (by decide) e) (by decide)
theorem mN_13_3 {ad : Nat → Nat} (hA : mA ad) : ¬ ad 13 = ad 3 := fun e => absurd (hA.1 13 (by decide) 3 (by decide) e) (by decide)
theorem mN_13_12 {ad : Nat → Nat} (hA : mA ad) : ¬ ad 13 = ad 12 := fun e => absurd (hA.1 13 (by decide) 12 (by decide) e) (by decide)
theorem mN_13_14 {ad : Nat → Nat} (hA : mA ad) : ¬ ad 13 = ad 14 := fun e => absurd (hA.1 13 (by decide) 14 (by decide) e) (by decide)
theorem mN_13_16 {ad : Nat → Nat} (hA : mA ad) : ¬ ad 13 = ad 16 := fun e => absurd (hA.1 13 (by decide) 16 (by decide) e) (by decide)
theorem mN_13_17 {ad : Nat → Nat} (hA : mA ad) : ¬ ad 13 = ad 17 := fun e => absurd (hA.1 13 (by decide) 17 (by decide) e) (by decide)
theorem mN_13_18 {ad : Nat → Nat} (hA : mA ad) : ¬ ad 13 = ad 18 := fun e => absurd (hA.1 13 (by decide) 18 (by decide) e) (by decide)
theorem mN_13_19 {ad : Nat → Nat} (hA : mA ad) : ¬ ad 13 = ad 19 := fun e => absurd (hA.1 13 (by decide) 19 (by decide) e) (by decide)
theorem mN_13_20 {ad : Nat → Nat} (hA : mA ad) : ¬ ad 13 = ad 20 := fun e => absurd (hA.1 13 (by decide) 20 (by decide) e) (by decide)
theorem mN_13_21 {ad : Nat → Nat} (hA : mA ad) : ¬ ad 13 = ad 21 := fun e => absurd (hA.1 13 (by decide) 21 (by decide) e) (by decide)
theorem mN_14_0 {ad : Nat → Nat} (hA : mA ad) : ¬ ad 14 = ad 0 := fun e => absurd (hA.1 14 (by decide) 0 (by decide) e) (by decide)
theorem mN_14_3 {ad : Nat → Nat} (hA : mA ad) : ¬ ad 14 = ad 3 := fun e => absurd (hA.1 14 (by decide) 3 (by decide) e) (by decide)
theorem mN_14_12 {ad : Nat → Nat} (hA : mA ad) : ¬ ad 14 = ad 12 := fun e => absurd (hA.1 14 (by decide) 12 (by decide) e) (by decide)
theorem mN_14_13 {ad : Nat → Nat} (hA : mA ad) : ¬ ad 14 = ad 13 := fun e => absurd (hA.1 14 (by decide) 13 (by decide) e) (by decide)
theorem mN_14_16 {ad : Nat → Nat} (hA : mA ad) : ¬ ad 14 = ad 16 := fun e => absurd (hA.1 14 (by decide) 16 (by decide) e) (by decide)
theorem mN_14_17 {ad : Nat → Nat} (hA : mA ad) : ¬ ad 14 = ad 17 := fun e => absurd (hA.1 14 (by decide) 17 (by decide) e) (by decide)
theorem mN_14_18 {ad : Nat → Nat} (hA : mA ad) : ¬ ad 14 = ad 18 := fun e => absurd (hA.1 14 (by decide) 18 (by decide) e) (by decide)
theorem mN_14_19 {ad : Nat → Nat} (hA : mA ad) : ¬ ad 14 = ad 19 := fun e => absurd (hA.1 14 (by decide) 19 (by decide) e) (by decide)
theorem mN_14_20 {ad : Nat → Nat} (hA : mA ad) : ¬ ad 14 = ad 20 := fun e => absurd (hA.1 14 (by decide) 20 (by decide) e) (by decide)
theorem mN_14_21 {ad : Nat → Nat} (hA : mA ad) : ¬ ad 14 = ad 21 := fun e => absurd (hA.1 14 (by decide) 21 (by decide) e) (by decide)
theorem mN_16_0 {ad : Nat → Nat} (hA : mA ad) : ¬ ad 16 = ad 0 := fun e => absurd (hA.1 16 (by decide) 0 (by decide) e) (by decide)
theorem mN_16_3 {ad : Nat → Nat} (hA : mA ad) : ¬ ad 16 = ad 3 := fun e => absurd (hA.1 16 (by decide) 3 (by decide) e) (by decide)
theorem mN_16_12 {ad : Nat → Nat} (hA : mA ad) : ¬ ad 16 = ad 12 := fun e => absurd (hA.1 16 (by decide) 12 (by decide) e) (by decide)
theorem mN_16_13 {ad : Nat → Nat} (hA : mA ad) : ¬ ad 16 = ad 13 := fun e => absurd (hA.1 16 (by decide) 13 (by decide) e) (by decide)
theorem mN_16_14 {ad : Nat → Nat} (hA : mA ad) : ¬ ad 16 = ad 14 := fun e => absurd (hA.1 16 (by decide) 14 (by decide) e) (by decide)
theorem mN_16_17 {ad : Nat → Nat} (hA : mA ad) : ¬ ad 16 = ad 17 := fun e => absurd (hA.1 16 (by decide) 17 (by decide) e) (by decide)
theorem mN_16_18 {ad : Nat → Nat} (hA : mA ad) : ¬ ad 16 = ad 18 := fun e => absurd (hA.1 16 (by decide) 18 (by decide) e) (by decide)
theorem mN_16_19 {ad : Nat → Nat} (hA : mA ad) : ¬ ad 16 = ad 19 := fun e => absurd (hA.1 16 (by decide) 19 (by decide) e) (by decide)
theorem mN_16_20 {ad : Nat → Nat} (hA : mA ad) : ¬ ad 16 = ad 20 := fun e => absurd (hA.1 16 (by decide) 20 (by decide) e) (by decide)
theorem mN_16_21 {ad : Nat → Nat} (hA : mA ad) : ¬ ad 16 = ad 21 := fun e => absurd (hA.1 16 (by decide) 21 (by decide) e) (by decide)
theorem mN_17_0 {ad : Nat → Nat} (hA : mA ad) : ¬ ad 17 = ad 0 := fun e => absurd (hA.1 17 (by decide) 0 (by decide) e) (by decide)
theorem mN_17_3 {ad : Nat → Nat} (hA : mA ad) : ¬ ad 17 = ad 3 := fun e => absurd (hA.1 17 (by decide) 3 (by decide) e) (by decide)
theorem mN_17_12 {ad : Nat → Nat} (hA : mA ad) : ¬ ad 17 = ad 12 := fun e => absurd (hA.1 17 (by decide) 12 (by decide) e) (by decide)
theorem mN_17_13 {ad : Nat → Nat} (hA : mA ad) : ¬ ad 17 = ad 13 := fun e => absurd (hA.1 17 (by decide) 13 (by decide) e) (by decide)
theorem mN_17_14 {ad : Nat → Nat} (hA : mA ad) : ¬ ad 17 = ad 14 := fun e => absurd (hA.1 17 (by decide) 14 (by decide) e) (by decide)
theorem mN_17_16 {ad : Nat → Nat} (hA : mA ad) : ¬ ad 17 = ad 16 := fun e => absurd (hA.1 17 (by decide) 16 (by decide) e) (by decide)
theorem mN_17_18 {ad : Nat → Nat} (hA : mA ad) : ¬ ad 17 = ad 18 := fun e => absurd (hA.1 17 (by decide) 18 (by decide) e) (by decide)
theorem mN_17_19 {ad : Nat → Nat} (hA : mA ad) : ¬ ad 17 = ad 19 := fun e => absurd (hA.1 17 (by decide) 19 (by decide) e) (by decide)
theorem mN_17_20 {ad : Nat → Nat} (hA : mA ad) : ¬ ad 17 = ad 20 := fun e => absurd (hA.1 17 (by decide) 20 (by decide) e) (by decide)
theorem mN_17_21 {ad : Nat → Nat} (hA : mA ad) : ¬ ad 17 = ad 21 := fun e => absurd (hA.1 17 (by decide) 21 (by decide) e) (by decide)
theorem mN_18_0 {ad : Nat → Nat} (hA : mA ad) : ¬ ad 18 = ad 0 := fun e => absurd (hA.1 18 (by decide) 0 (by decide) e) (by decide)
theorem mN_18_3 {ad : Nat → Nat} (hA : mA ad) : ¬ ad 18 = ad 3 := fun e => absurd (hA.1 18 (by decide) 3 (by decide) e) (by decide)
theorem mN_18_12 {ad : Nat → Nat} (hA : mA ad) : ¬ ad 18 = ad 12 := fun e => absurd (hA.1 18 (by decide) 12 (by decide) e) (by decide)
theorem mN_18_13 {ad : Nat → Nat} (hA : mA ad) : ¬ ad 18 = ad 13 := fun e => absurd (hA.1 18 (by decide) 13 (by decide) e) (by decide)
theorem mN_18_14 {ad : Nat → Nat} (hA : mA ad) : ¬ ad 18 = ad 14 := fun e => absurd (hA.1 18 (by decide) 14 (by decide) e) (by decide)
theorem mN_18_16 {ad : Nat → Nat} (hA : mA ad) : ¬ ad 18 = ad 16 := fun e => absurd (hA.1 18 (by decide) 16 (by decide) e) (by decide)
theorem mN_18_17 {ad : Nat → Nat} (hA : mA ad) : ¬ ad 18 = ad 17 := fun e => absurd (hA.1 18 (by decide) 17 (by decide) e) (by decide)
theorem mN_18_19 {ad : Nat → Nat} (hA : mA ad) : ¬ ad 18 = ad 19 := fun e => absurd (hA.1 18 (by decide) 19 (by decide) e) (by decide)
theorem mN_18_20 {ad : Nat → Nat} (hA : mA ad) : ¬ ad 18 = ad 20 := fun e => absurd (hA.1 18 (by decide) 20 (by decide) e) (by decide)
theorem mN_18_21 {ad : Nat → Nat} (hA : mA ad) : ¬ ad 18 = ad 21 := fun e => absurd (hA.1 18 (by decide) 21 (by decide) e) (by decide)
theorem mN_19_0 {ad : Nat → Nat} (hA : mA ad) : ¬ ad 19 = ad 0 := fun e => absurd (hA.1 19 (by decide) 0 (by decide) e) (by decide)
theorem mN_19_3 {ad : Nat → Nat} (hA : mA ad) : ¬ ad 19 = ad 3 := fun e => absurd (hA.1 19 (by decide) 3 (by decide) e) (by decide)
theorem mN_19_12 {ad : Nat → Nat} (hA : mA ad) : ¬ ad 19 = ad 12 := fun e => absurd (hA.1 19 (by decide) 12 (by decide) e) (by decide)
theorem mN_19_13 {ad : Nat → Nat} (hA : mA ad) : ¬ ad 19 = ad 13 := fun e => absurd (hA.1 19 (by decide) 13 (by decide) e) (by decide)
theorem mN_19_14 {ad : Nat → Nat} (hA : mA ad) : ¬ ad 19 = ad 14 := fun e => absurd (hA.1 19 (by decide) 14 (by decide) e) (by decide)
theorem mN_19_16 {ad : Nat → Nat} (hA : mA ad) : ¬ ad 19 = ad 16 := fun e => absurd (hA.1 19 (by decide) 16 (by decide) e) (by decide)
theorem mN_19_17 {ad : Nat → Nat} (hA : mA ad) : ¬ ad 19 = ad 17 := fun e => absurd (hA.1 19 (by decide) 17 (by decide) e) (by decide)
theorem mN_19_18 {ad : Nat → Nat} (hA : mA ad) : ¬ ad 19 = ad 18 := fun e => absurd (hA.1 19 (by decide) 18 (by decide) e) (by decide)
theorem mN_19_20 {ad : Nat → Nat} (hA : mA ad) : ¬ ad 19 = ad 20 := fun e => absurd (hA.1 19 (by decide) 20 (by decide) e) (by decide)
theorem mN_19_21 {ad : Nat → Nat} (hA : mA ad) : ¬ ad 19 = ad 21 := fun e => absurd (hA.1 19 (by decide) 21 (by decide) e) (by decide)
theorem mN_20_0 {ad : Nat → Nat} (hA : mA ad) : ¬ ad 20 = ad 0 := fun e => absurd (hA.1 20 (by decide) 0 (by decide) e) (by decide)
theorem mN_20_3 {ad : Nat → Nat} (hA : mA ad) : ¬ ad 20 = ad 3 := fun e => absurd (hA.1 20 (by decide) 3 (by decide) e) (by decide)
theorem mN_20_12 {ad : Nat → Nat} (hA : mA ad) : ¬ ad 20 = ad 12 := fun e => absurd (hA.1 20 (by decide) 12 (by decide) e) (by decide)
theorem mN_20_13 {ad : Nat → Nat} (hA : mA ad) : ¬ ad 20 = ad 13 := fun e => absurd (hA.1 20 (by decide) 13 (by decide) e) (by decide)
theorem mN_20_14 {ad : Nat → Nat} (hA : mA ad) : ¬ ad 20 = ad 14 := fun e => absurd (hA.1 20 (by decide) 14 (by decide) e) (by decide)
theorem mN_20_16 {ad : Nat → Nat} (hA : mA ad) : ¬ ad 20 = ad 16 := fun e => absurd (hA.1 20 (by decide) 16 (by decide) e) (by decide)
theorem mN_20_17 {ad : Nat → Nat} (hA : mA ad) : ¬ ad 20 = ad 17 := fun e => absurd (hA.1 20 (by decide) 17 (by decide) e) (by decide)
theorem mN_20_18 {ad : Nat → Nat} (hA : mA ad) : ¬ ad 20 = ad 18 := fun e => absurd (hA.1 20 (by decide) 18 (by decide) e) (by decide)
theorem mN_20_19 {ad : Nat → Nat} (hA : mA ad) : ¬ ad 20 = ad 19 := fun e => absurd (hA.1 20 (by decide) 19 (by decide) e) (by decide)
theorem mN_20_21 {ad : Nat → Nat} (hA : mA ad) : ¬ ad 20 = ad 21 := fun e => absurd (hA.1 20 (by decide) 21 (by decide) e) (by decide)
theorem mN_21_0 {ad : Nat → Nat} (hA : mA ad) : ¬ ad 21 = ad 0 := fun e => absurd (hA.1 21 (by decide) 0 (by decide) e) (by decide)
theorem mN_21_3 {ad : Nat → Nat} (hA : mA ad) : ¬ ad 21 = ad 3 := fun e => absurd (hA.1 21 (by decide) 3 (by decide) e) (by decide)
theorem mN_21_12 {ad : Nat → Nat} (hA : mA ad) : ¬ ad 21 = ad 12 := fun e => absurd (hA.1 21 (by decide) 12 (by decide) e) (by decide)
theorem mN_21_13 {ad : Nat → Nat} (hA : mA ad) : ¬ ad 21 = ad 13 := fun e => absurd (hA.1 21 (by decide) 13 (by decide) e) (by decide)
theorem mN_21_14 {ad : Nat → Nat} (hA : mA ad) : ¬ ad 21 = ad 14 := fun e => absurd (hA.1 21 (by decide) 14 (by decide) e) (by decide)
theorem mN_21_16 {ad : Nat → Nat} (hA : mA ad) : ¬ ad 21 = ad 16 := fun e => absurd (hA.1 21 (by decide) 16 (by decide) e) (by decide)
theorem mN_21_17 {ad : Nat → Nat} (hA : mA ad) : ¬ ad 21 = ad 17 := fun e => absurd (hA.1 21 (by decide) 17 (by decide) e) (by decide)
theorem mN_21_18 {ad : Nat → Nat} (hA : mA ad) : ¬ ad 21 = ad 18 := fun e => absurd (hA.1 21 (by decide) 18 (by decide) e) (by decide)
theorem mN_21_19 {ad : Nat → Nat} (hA : mA ad) : ¬ ad 21 = ad 19 := fun e => absurd (hA.1 21 (by decide) 19 (by decide) e) (by decide)
theorem mN_21_20 {ad : Nat → Nat} (hA : mA ad) : ¬ ad 21 = ad 20 := fun e => absurd (hA.1 21 (by decide) 20 (by decide) e) (by decide)
theorem mgR_0 {h : AbH} {m : Nat} {ad : Nat → Nat} {sc : Nat → Int} {ar : Nat → Nat → Int} {f : Option Nat → Prop} : wpGR (mH h m ad sc ar) (some m) 9 0 f = f (some (ad 0)) := by
  apply propext
  constructor
  · rintro ⟨a, fs, n, e1, e2, e3, hf⟩
    cases e1
    rw [mH_O, if_pos rfl] at e2
    cases e2
    cases e3
    exact hf
  · intro hf
    exact ⟨m, _, _, rfl, by rw [mH_O, if_pos rfl], rfl, hf⟩
theorem mgR_3 {h : AbH} {m : Nat} {ad : Nat → Nat} {sc : Nat → Int} {ar : Nat → Nat → Int} {f : Option Nat → Prop} : wpGR (mH h m ad sc ar) (some m) 9 3 f = f (some (ad 3)) := by
  apply propext
  constructor
  · rintro ⟨a, fs, n, e1, e2, e3, hf⟩
    cases e1
    rw [mH_O, if_pos rfl] at e2
    cases e2
    cases e3
    exact hf
  · intro hf
    exact ⟨m, _, _, rfl, by rw [mH_O, if_pos rfl], rfl, hf⟩
theorem mgR_12 {h : AbH} {m : Nat} {ad : Nat → Nat} {sc : Nat → Int} {ar : Nat → Nat → Int} {f : Option Nat → Prop} : wpGR (mH h m ad sc ar) (some m) 9 12 f = f (some (ad 12)) := by
  apply propext
  constructor
  · rintro ⟨a, fs, n, e1, e2, e3, hf⟩
    cases e1
    rw [mH_O, if_pos rfl] at e2
    cases e2
    cases e3
    exact hf
  · intro hf
    exact ⟨m, _, _, rfl, by rw [mH_O, if_pos rfl], rfl, hf⟩
theorem mgR_13 {h : AbH} {m : Nat} {ad : Nat → Nat} {sc : Nat → Int} {ar : Nat → Nat → Int} {f : Option Nat → Prop} : wpGR (mH h m ad sc ar) (some m) 9 13 f = f (some (ad 13)) := by
  apply propext
  constructor
  · rintro ⟨a, fs, n, e1, e2, e3, hf⟩
    cases e1
    rw [mH_O, if_pos rfl] at e2
    cases e2
    cases e3
    exact hf
  · intro hf
    exact ⟨m, _, _, rfl, by rw [mH_O, if_pos rfl], rfl, hf⟩
theorem mgR_14 {h : AbH} {m : Nat} {ad : Nat → Nat} {sc : Nat → Int} {ar : Nat → Nat → Int} {f : Option Nat → Prop} : wpGR (mH h m ad sc ar) (some m) 9 14 f = f (some (ad 14)) := by
  apply propext
  constructor
  · rintro ⟨a, fs, n, e1, e2, e3, hf⟩
    cases e1
    rw [mH_O, if_pos rfl] at e2
    cases e2
    cases e3
    exact hf
  · intro hf
    exact ⟨m, _, _, rfl, by rw [mH_O, if_pos rfl], rfl, hf⟩
theorem mgR_16 {h : AbH} {m : Nat} {ad : Nat → Nat} {sc : Nat → Int} {ar : Nat → Nat → Int} {f : Option Nat → Prop} : wpGR (mH h m ad sc ar) (some m) 9 16 f = f (some (ad 16)) := by
  apply propext
  constructor
  · rintro ⟨a, fs, n, e1, e2, e3, hf⟩
    cases e1
    rw [mH_O, if_pos rfl] at e2
    cases e2
    cases e3
    exact hf
  · intro hf
    exact ⟨m, _, _, rfl, by rw [mH_O, if_pos rfl], rfl, hf⟩
theorem mgR_17 {h : AbH} {m : Nat} {ad : Nat → Nat} {sc : Nat → Int} {ar : Nat → Nat → Int} {f : Option Nat → Prop} : wpGR (mH h m ad sc ar) (some m) 9 17 f = f (some (ad 17)) := by
  apply propext
  constructor
  · rintro ⟨a, fs, n, e1, e2, e3, hf⟩
    cases e1
    rw [mH_O, if_pos rfl] at e2
    cases e2
    cases e3
    exact hf
  · intro hf
    exact ⟨m, _, _, rfl, by rw [mH_O, if_pos rfl], rfl, hf⟩
theorem mgR_18 {h : AbH} {m : Nat} {ad : Nat → Nat} {sc : Nat → Int} {ar : Nat → Nat → Int} {f : Option Nat → Prop} : wpGR (mH h m ad sc ar) (some m) 9 18 f = f (some (ad 18)) := by
  apply propext
  constructor
  · rintro ⟨a, fs, n, e1, e2, e3, hf⟩
    cases e1
    rw [mH_O, if_pos rfl] at e2
    cases e2
    cases e3
    exact hf
  · intro hf
    exact ⟨m, _, _, rfl, by rw [mH_O, if_pos rfl], rfl, hf⟩
theorem mgR_19 {h : AbH} {m : Nat} {ad : Nat → Nat} {sc : Nat → Int} {ar : Nat → Nat → Int} {f : Option Nat → Prop} : wpGR (mH h m ad sc ar) (some m) 9 19 f = f (some (ad 19)) := by
  apply propext
  constructor
  · rintro ⟨a, fs, n, e1, e2, e3, hf⟩
    cases e1
    rw [mH_O, if_pos rfl] at e2
    cases e2
    cases e3
    exact hf
  · intro hf
    exact ⟨m, _, _, rfl, by rw [mH_O, if_pos rfl], rfl, hf⟩
theorem mgR_20 {h : AbH} {m : Nat} {ad : Nat → Nat} {sc : Nat → Int} {ar : Nat → Nat → Int} {f : Option Nat → Prop} : wpGR (mH h m ad sc ar) (some m) 9 20 f = f (some (ad 20)) := by
  apply propext
  constructor
  · rintro ⟨a, fs, n, e1, e2, e3, hf⟩
    cases e1
    rw [mH_O, if_pos rfl] at e2
    cases e2
    cases e3
    exact hf
  · intro hf
    exact ⟨m, _, _, rfl, by rw [mH_O, if_pos rfl], rfl, hf⟩
theorem mgR_21 {h : AbH} {m : Nat} {ad : Nat → Nat} {sc : Nat → Int} {ar : Nat → Nat → Int} {f : Option Nat → Prop} : wpGR (mH h m ad sc ar) (some m) 9 21 f = f (some (ad 21)) := by
  apply propext
  constructor
  · rintro ⟨a, fs, n, e1, e2, e3, hf⟩
    cases e1
    rw [mH_O, if_pos rfl] at e2
    cases e2
    cases e3
    exact hf
  · intro hf
    exact ⟨m, _, _, rfl, by rw [mH_O, if_pos rfl], rfl, hf⟩
theorem mgR_2 {h : AbH} {m : Nat} {ad : Nat → Nat} {sc : Nat → Int} {ar : Nat → Nat → Int} {f : Option Nat → Prop} : wpGR (mH h m ad sc ar) (some m) 9 2 f = f (some (ad 2)) := by
  apply propext
  constructor
  · rintro ⟨a, fs, n, e1, e2, e3, hf⟩
    cases e1
    rw [mH_O, if_pos rfl] at e2
    cases e2
    cases e3
    exact hf
  · intro hf
    exact ⟨m, _, _, rfl, by rw [mH_O, if_pos rfl], rfl, hf⟩
theorem mgR_7 {h : AbH} {m : Nat} {ad : Nat → Nat} {sc : Nat → Int} {ar : Nat → Nat → Int} {f : Option Nat → Prop} : wpGR (mH h m ad sc ar) (some m) 9 7 f = f (some (ad 7)) := by
  apply propext
  constructor
  · rintro ⟨a, fs, n, e1, e2, e3, hf⟩
    cases e1
    rw [mH_O, if_pos rfl] at e2
    cases e2
    cases e3
    exact hf
  · intro hf
    exact ⟨m, _, _, rfl, by rw [mH_O, if_pos rfl], rfl, hf⟩
theorem mgI_1 {h : AbH} {m : Nat} {ad : Nat → Nat} {sc : Nat → Int} {ar : Nat → Nat → Int} {f : Int → Prop} : wpGI (mH h m ad sc ar) (some m) 9 1 f = f (sc 1) := by
  apply propext
  constructor
  · rintro ⟨a, fs, n, e1, e2, e3, hf⟩
    cases e1
    rw [mH_O, if_pos rfl] at e2
    cases e2
    cases e3
    exact hf
  · intro hf
    exact ⟨m, _, _, rfl, by rw [mH_O, if_pos rfl], rfl, hf⟩
theorem mpI_1 {h : AbH} {m : Nat} {ad : Nat → Nat} {sc : Nat → Int} {ar : Nat → Nat → Int} {n : Int} {f : AbH → Prop} : wpP (mH h m ad sc ar) (some m) 9 1 (vI n) f = f (mH h m ad (va_up sc 1 n) ar) := by
  have e0 : hsO (mH h m ad sc ar) m (9, (mF ad sc).set 1 (vI n)) = mH h m ad (va_up sc 1 n) ar := by
    refine Prod.ext (funext fun q => ?_) rfl
    show (if q = m then _ else if q = m then _ else _) = if q = m then _ else _
    by_cases e : q = m
    · rw [if_pos e, if_pos e]
      rfl
    · rw [if_neg e, if_neg e, if_neg e]
  apply propext
  constructor
  · rintro ⟨a, fs, e1, e2, e3, hf⟩
    cases e1
    rw [mH_O, if_pos rfl] at e2
    cases e2
    rwa [e0] at hf
  · intro hf
    exact ⟨m, mF ad sc, rfl, by rw [mH_O, if_pos rfl], (by decide : 1 < 23), by rw [e0]; exact hf⟩
theorem mgI_4 {h : AbH} {m : Nat} {ad : Nat → Nat} {sc : Nat → Int} {ar : Nat → Nat → Int} {f : Int → Prop} : wpGI (mH h m ad sc ar) (some m) 9 4 f = f (sc 4) := by
  apply propext
  constructor
  · rintro ⟨a, fs, n, e1, e2, e3, hf⟩
    cases e1
    rw [mH_O, if_pos rfl] at e2
    cases e2
    cases e3
    exact hf
  · intro hf
    exact ⟨m, _, _, rfl, by rw [mH_O, if_pos rfl], rfl, hf⟩
theorem mpI_4 {h : AbH} {m : Nat} {ad : Nat → Nat} {sc : Nat → Int} {ar : Nat → Nat → Int} {n : Int} {f : AbH → Prop} : wpP (mH h m ad sc ar) (some m) 9 4 (vI n) f = f (mH h m ad (va_up sc 4 n) ar) := by
  have e0 : hsO (mH h m ad sc ar) m (9, (mF ad sc).set 4 (vI n)) = mH h m ad (va_up sc 4 n) ar := by
    refine Prod.ext (funext fun q => ?_) rfl
    show (if q = m then _ else if q = m then _ else _) = if q = m then _ else _
    by_cases e : q = m
    · rw [if_pos e, if_pos e]
      rfl
    · rw [if_neg e, if_neg e, if_neg e]
  apply propext
  constructor
  · rintro ⟨a, fs, e1, e2, e3, hf⟩
    cases e1
    rw [mH_O, if_pos rfl] at e2
    cases e2
    rwa [e0] at hf
  · intro hf
    exact ⟨m, mF ad sc, rfl, by rw [mH_O, if_pos rfl], (by decide : 4 < 23), by rw [e0]; exact hf⟩
theorem mgI_5 {h : AbH} {m : Nat} {ad : Nat → Nat} {sc : Nat → Int} {ar : Nat → Nat → Int} {f : Int → Prop} : wpGI (mH h m ad sc ar) (some m) 9 5 f = f (sc 5) := by
  apply propext
  constructor
  · rintro ⟨a, fs, n, e1, e2, e3, hf⟩
    cases e1
    rw [mH_O, if_pos rfl] at e2
    cases e2
    cases e3
    exact hf
  · intro hf
    exact ⟨m, _, _, rfl, by rw [mH_O, if_pos rfl], rfl, hf⟩
theorem mpI_5 {h : AbH} {m : Nat} {ad : Nat → Nat} {sc : Nat → Int} {ar : Nat → Nat → Int} {n : Int} {f : AbH → Prop} : wpP (mH h m ad sc ar) (some m) 9 5 (vI n) f = f (mH h m ad (va_up sc 5 n) ar) := by
  have e0 : hsO (mH h m ad sc ar) m (9, (mF ad sc).set 5 (vI n)) = mH h m ad (va_up sc 5 n) ar := by
    refine Prod.ext (funext fun q => ?_) rfl
    show (if q = m then _ else if q = m then _ else _) = if q = m then _ else _
    by_cases e : q = m
    · rw [if_pos e, if_pos e]
      rfl
    · rw [if_neg e, if_neg e, if_neg e]
  apply propext
  constructor
  · rintro ⟨a, fs, e1, e2, e3, hf⟩
    cases e1
    rw [mH_O, if_pos rfl] at e2
    cases e2
    rwa [e0] at hf
  · intro hf
    exact ⟨m, mF ad sc, rfl, by rw [mH_O, if_pos rfl], (by decide : 5 < 23), by rw [e0]; exact hf⟩
theorem mgI_6 {h : AbH} {m : Nat} {ad : Nat → Nat} {sc : Nat → Int} {ar : Nat → Nat → Int} {f : Int → Prop} : wpGI (mH h m ad sc ar) (some m) 9 6 f = f (sc 6) := by
  apply propext
  constructor
  · rintro ⟨a, fs, n, e1, e2, e3, hf⟩
    cases e1
    rw [mH_O, if_pos rfl] at e2
    cases e2
    cases e3
    exact hf
  · intro hf
    exact ⟨m, _, _, rfl, by rw [mH_O, if_pos rfl], rfl, hf⟩
theorem mpI_6 {h : AbH} {m : Nat} {ad : Nat → Nat} {sc : Nat → Int} {ar : Nat → Nat → Int} {n : Int} {f : AbH → Prop} : wpP (mH h m ad sc ar) (some m) 9 6 (vI n) f = f (mH h m ad (va_up sc 6 n) ar) := by
  have e0 : hsO (mH h m ad sc ar) m (9, (mF ad sc).set 6 (vI n)) = mH h m ad (va_up sc 6 n) ar := by
    refine Prod.ext (funext fun q => ?_) rfl
    show (if q = m then _ else if q = m then _ else _) = if q = m then _ else _
    by_cases e : q = m
    · rw [if_pos e, if_pos e]
      rfl
    · rw [if_neg e, if_neg e, if_neg e]
  apply propext
  constructor
  · rintro ⟨a, fs, e1, e2, e3, hf⟩
    cases e1
    rw [mH_O, if_pos rfl] at e2
    cases e2
    rwa [e0] at hf
  · intro hf
    exact ⟨m, mF ad sc, rfl, by rw [mH_O, if_pos rfl], (by decide : 6 < 23), by rw [e0]; exact hf⟩
theorem mgI_8 {h : AbH} {m : Nat} {ad : Nat → Nat} {sc : Nat → Int} {ar : Nat → Nat → Int} {f : Int → Prop} : wpGI (mH h m ad sc ar) (some m) 9 8 f = f (sc 8) := by
  apply propext
  constructor
  · rintro ⟨a, fs, n, e1, e2, e3, hf⟩
    cases e1
    rw [mH_O, if_pos rfl] at e2
    cases e2
    cases e3
    exact hf
  · intro hf
    exact ⟨m, _, _, rfl, by rw [mH_O, if_pos rfl], rfl, hf⟩
theorem mpI_8 {h : AbH} {m : Nat} {ad : Nat → Nat} {sc : Nat → Int} {ar : Nat → Nat → Int} {n : Int} {f : AbH → Prop} : wpP (mH h m ad sc ar) (some m) 9 8 (vI n) f = f (mH h m ad (va_up sc 8 n) ar) := by
  have e0 : hsO (mH h m ad sc ar) m (9, (mF ad sc).set 8 (vI n)) = mH h m ad (va_up sc 8 n) ar := by
    refine Prod.ext (funext fun q => ?_) rfl
    show (if q = m then _ else if q = m then _ else _) = if q = m then _ else _
    by_cases e : q = m
    · rw [if_pos e, if_pos e]
      rfl
    · rw [if_neg e, if_neg e, if_neg e]
  apply propext
  constructor
  · rintro ⟨a, fs, e1, e2, e3, hf⟩
    cases e1
    rw [mH_O, if_pos rfl] at e2
    cases e2
    rwa [e0] at hf
  · intro hf
    exact ⟨m, mF ad sc, rfl, by rw [mH_O, if_pos rfl], (by decide : 8 < 23), by rw [e0]; exact hf⟩
theorem mgI_9 {h : AbH} {m : Nat} {ad : Nat → Nat} {sc : Nat → Int} {ar : Nat → Nat → Int} {f : Int → Prop} : wpGI (mH h m ad sc ar) (some m) 9 9 f = f (sc 9) := by
  apply propext
  constructor
  · rintro ⟨a, fs, n, e1, e2, e3, hf⟩
    cases e1
    rw [mH_O, if_pos rfl] at e2
    cases e2
    cases e3
    exact hf
  · intro hf
    exact ⟨m, _, _, rfl, by rw [mH_O, if_pos rfl], rfl, hf⟩
theorem mpI_9 {h : AbH} {m : Nat} {ad : Nat → Nat} {sc : Nat → Int} {ar : Nat → Nat → Int} {n : Int} {f : AbH → Prop} : wpP (mH h m ad sc ar) (some m) 9 9 (vI n) f = f (mH h m ad (va_up sc 9 n) ar) := by
  have e0 : hsO (mH h m ad sc ar) m (9, (mF ad sc).set 9 (vI n)) = mH h m ad (va_up sc 9 n) ar := by
    refine Prod.ext (funext fun q => ?_) rfl
    show (if q = m then _ else if q = m then _ else _) = if q = m then _ else _
    by_cases e : q = m
    · rw [if_pos e, if_pos e]
      rfl
    · rw [if_neg e, if_neg e, if_neg e]
  apply propext
  constructor
  · rintro ⟨a, fs, e1, e2, e3, hf⟩
    cases e1
    rw [mH_O, if_pos rfl] at e2
    cases e2
    rwa [e0] at hf
  · intro hf
    exact ⟨m, mF ad sc, rfl, by rw [mH_O, if_pos rfl], (by decide : 9 < 23), by rw [e0]; exact hf⟩
theorem mgI_10 {h : AbH} {m : Nat} {ad : Nat → Nat} {sc : Nat → Int} {ar : Nat → Nat → Int} {f : Int → Prop} : wpGI (mH h m ad sc ar) (some m) 9 10 f = f (sc 10) := by
  apply propext
  constructor
  · rintro ⟨a, fs, n, e1, e2, e3, hf⟩
    cases e1
    rw [mH_O, if_pos rfl] at e2
    cases e2
    cases e3
    exact hf
  · intro hf
    exact ⟨m, _, _, rfl, by rw [mH_O, if_pos rfl], rfl, hf⟩
theorem mpI_10 {h : AbH} {m : Nat} {ad : Nat → Nat} {sc : Nat → Int} {ar : Nat → Nat → Int} {n : Int} {f : AbH → Prop} : wpP (mH h m ad sc ar) (some m) 9 10 (vI n) f = f (mH h m ad (va_up sc 10 n) ar) := by
  have e0 : hsO (mH h m ad sc ar) m (9, (mF ad sc).set 10 (vI n)) = mH h m ad (va_up sc 10 n) ar := by
    refine Prod.ext (funext fun q => ?_) rfl
    show (if q = m then _ else if q = m then _ else _) = if q = m then _ else _
    by_cases e : q = m
    · rw [if_pos e, if_pos e]
      rfl
    · rw [if_neg e, if_neg e, if_neg e]
  apply propext
  constructor
  · rintro ⟨a, fs, e1, e2, e3, hf⟩
    cases e1
    rw [mH_O, if_pos rfl] at e2
    cases e2
    rwa [e0] at hf
  · intro hf
    exact ⟨m, mF ad sc, rfl, by rw [mH_O, if_pos rfl], (by decide : 10 < 23), by rw [e0]; exact hf⟩
theorem mgI_11 {h : AbH} {m : Nat} {ad : Nat → Nat} {sc : Nat → Int} {ar : Nat → Nat → Int} {f : Int → Prop} : wpGI (mH h m ad sc ar) (some m) 9 11 f = f (sc 11) := by
  apply propext
  constructor
  · rintro ⟨a, fs, n, e1, e2, e3, hf⟩
    cases e1
    rw [mH_O, if_pos rfl] at e2
    cases e2
    cases e3
    exact hf
  · intro hf
    exact ⟨m, _, _, rfl, by rw [mH_O, if_pos rfl], rfl, hf⟩
theorem mpI_11 {h : AbH} {m : Nat} {ad : Nat → Nat} {sc : Nat → Int} {ar : Nat → Nat → Int} {n : Int} {f : AbH → Prop} : wpP (mH h m ad sc ar) (some m) 9 11 (vI n) f = f (mH h m ad (va_up sc 11 n) ar) := by
  have e0 : hsO (mH h m ad sc ar) m (9, (mF ad sc).set 11 (vI n)) = mH h m ad (va_up sc 11 n) ar := by
    refine Prod.ext (funext fun q => ?_) rfl
    show (if q = m then _ else if q = m then _ else _) = if q = m then _ else _
    by_cases e : q = m
    · rw [if_pos e, if_pos e]
      rfl
    · rw [if_neg e, if_neg e, if_neg e]
  apply propext
  constructor
  · rintro ⟨a, fs, e1, e2, e3, hf⟩
    cases e1
    rw [mH_O, if_pos rfl] at e2
    cases e2
    rwa [e0] at hf
  · intro hf
    exact ⟨m, mF ad sc, rfl, by rw [mH_O, if_pos rfl], (by decide : 11 < 23), by rw [e0]; exact hf⟩
theorem mgI_15 {h : AbH} {m : Nat} {ad : Nat → Nat} {sc : Nat → Int} {ar : Nat → Nat → Int} {f : Int → Prop} : wpGI (mH h m ad sc ar) (some m) 9 15 f = f (sc 15) := by
  apply propext
  constructor
  · rintro ⟨a, fs, n, e1, e2, e3, hf⟩
    cases e1
    rw [mH_O, if_pos rfl] at e2
    cases e2
    cases e3
    exact hf
  · intro hf
    exact ⟨m, _, _, rfl, by rw [mH_O, if_pos rfl], rfl, hf⟩
theorem mpI_15 {h : AbH} {m : Nat} {ad : Nat → Nat} {sc : Nat → Int} {ar : Nat → Nat → Int} {n : Int} {f : AbH → Prop} : wpP (mH h m ad sc ar) (some m) 9 15 (vI n) f = f (mH h m ad (va_up sc 15 n) ar) := by
  have e0 : hsO (mH h m ad sc ar) m (9, (mF ad sc).set 15 (vI n)) = mH h m ad (va_up sc 15 n) ar := by
    refine Prod.ext (funext fun q => ?_) rfl
    show (if q = m then _ else if q = m then _ else _) = if q = m then _ else _
    by_cases e : q = m
    · rw [if_pos e, if_pos e]
      rfl
    · rw [if_neg e, if_neg e, if_neg e]
  apply propext
  constructor
  · rintro ⟨a, fs, e1, e2, e3, hf⟩
    cases e1
    rw [mH_O, if_pos rfl] at e2
    cases e2
    rwa [e0] at hf
  · intro hf
    exact ⟨m, mF ad sc, rfl, by rw [mH_O, if_pos rfl], (by decide : 15 < 23), by rw [e0]; exact hf⟩
theorem mgI_22 {h : AbH} {m : Nat} {ad : Nat → Nat} {sc : Nat → Int} {ar : Nat → Nat → Int} {f : Int → Prop} : wpGI (mH h m ad sc ar) (some m) 9 22 f = f (sc 22) := by
  apply propext
  constructor
  · rintro ⟨a, fs, n, e1, e2, e3, hf⟩
    cases e1
    rw [mH_O, if_pos rfl] at e2
    cases e2
    cases e3
    exact hf
  · intro hf
    exact ⟨m, _, _, rfl, by rw [mH_O, if_pos rfl], rfl, hf⟩
theorem mpI_22 {h : AbH} {m : Nat} {ad : Nat → Nat} {sc : Nat → Int} {ar : Nat → Nat → Int} {n : Int} {f : AbH → Prop} : wpP (mH h m ad sc ar) (some m) 9 22 (vI n) f = f (mH h m ad (va_up sc 22 n) ar) := by
  have e0 : hsO (mH h m ad sc ar) m (9, (mF ad sc).set 22 (vI n)) = mH h m ad (va_up sc 22 n) ar := by
    refine Prod.ext (funext fun q => ?_) rfl
    show (if q = m then _ else if q = m then _ else _) = if q = m then _ else _
    by_cases e : q = m
    · rw [if_pos e, if_pos e]
      rfl
    · rw [if_neg e, if_neg e, if_neg e]
  apply propext
  constructor
  · rintro ⟨a, fs, e1, e2, e3, hf⟩
    cases e1
    rw [mH_O, if_pos rfl] at e2
    cases e2
    rwa [e0] at hf
  · intro hf
    exact ⟨m, mF ad sc, rfl, by rw [mH_O, if_pos rfl], (by decide : 22 < 23), by rw [e0]; exact hf⟩
theorem mI_0 {h : AbH} {m : Nat} {ad : Nat → Nat} {sc : Nat → Int} {ar : Nat → Nat → Int} (hA : mA ad) : hpI (mH h m ad sc ar) (ad 0) = some (4334, ar 0) := by
  rw [mH_I, if_pos rfl]
theorem mW_0 {h : AbH} {m : Nat} {ad : Nat → Nat} {sc : Nat → Int} {ar : Nat → Nat → Int} {g : Nat → Int} (hA : mA ad) : hsI (mH h m ad sc ar) (ad 0) (4334, g) = mH h m ad sc (va_up ar 0 g) := by
  refine Prod.ext rfl (Prod.ext (funext fun q => ?_) rfl)
  show hpI (hsI (mH h m ad sc ar) (ad 0) (4334, g)) q = hpI (mH h m ad sc (va_up ar 0 g)) q
  rw [hI_I]
  by_cases e : q = ad 0
  · subst e
    rw [if_pos rfl, mH_I, if_pos rfl, vu_same]
  · rw [if_neg e, mH_I, mH_I]
    simp only [if_neg e, vu_ne (show 3 ≠ 0 by decide), vu_ne (show 12 ≠ 0 by decide), vu_ne (show 13 ≠ 0 by decide), vu_ne (show 14 ≠ 0 by decide), vu_ne (show 16 ≠ 0 by decide), vu_ne (show 17 ≠ 0 by decide), vu_ne (show 18 ≠ 0 by decide), vu_ne (show 19 ≠ 0 by decide), vu_ne (show 20 ≠ 0 by decide), vu_ne (show 21 ≠ 0 by decide)]
theorem mlI_0 {h : AbH} {m : Nat} {ad : Nat → Nat} {sc : Nat → Int} {ar : Nat → Nat → Int} (hA : mA ad) {i : Int} {f : Int → Prop} : wpLI (mH h m ad sc ar) (some (ad 0)) i f = (0 ≤ i ∧ i < 4334 ∧ f (ar 0 i.toNat)) := by
  apply propext
  constructor
  · rintro ⟨a, k, g, e1, e2, h0, h1, hf⟩
    cases e1
    rw [mI_0 hA] at e2
    cases e2
    exact ⟨h0, h1, hf⟩
  · rintro ⟨h0, h1, hf⟩
    exact ⟨_, _, _, rfl, mI_0 hA, h0, h1, hf⟩
theorem msI_0 {h : AbH} {m : Nat} {ad : Nat → Nat} {sc : Nat → Int} {ar : Nat → Nat → Int} (hA : mA ad) {i x : Int} {f : AbH → Prop} : wpSI (mH h m ad sc ar) (some (ad 0)) i x f = (0 ≤ i ∧ i < 4334 ∧ f (mH h m ad sc (va_up ar 0 (va_up (ar 0) i.toNat x)))) := by
  apply propext
  constructor
  · rintro ⟨a, k, g, e1, e2, h0, h1, hf⟩
    cases e1
    rw [mI_0 hA] at e2
    cases e2
    rw [mW_0 hA] at hf
    exact ⟨h0, h1, hf⟩
  · rintro ⟨h0, h1, hf⟩
    exact ⟨_, _, _, rfl, mI_0 hA, h0, h1, by rw [mW_0 hA]; exact hf⟩
theorem mI_3 {h : AbH} {m : Nat} {ad : Nat → Nat} {sc : Nat → Int} {ar : Nat → Nat → Int} (hA : mA ad) : hpI (mH h m ad sc ar) (ad 3) = some (200, ar 3) := by
  rw [mH_I, if_neg (mN_3_0 hA), if_pos rfl]
theorem mW_3 {h : AbH} {m : Nat} {ad : Nat → Nat} {sc : Nat → Int} {ar : Nat → Nat → Int} {g : Nat → Int} (hA : mA ad) : hsI (mH h m ad sc ar) (ad 3) (200, g) = mH h m ad sc (va_up ar 3 g) := by
  refine Prod.ext rfl (Prod.ext (funext fun q => ?_) rfl)
  show hpI (hsI (mH h m ad sc ar) (ad 3) (200, g)) q = hpI (mH h m ad sc (va_up ar 3 g)) q
  rw [hI_I]
  by_cases e : q = ad 3
  · subst e
    rw [if_pos rfl, mH_I, if_neg (mN_3_0 hA), if_pos rfl, vu_same]
  · rw [if_neg e, mH_I, mH_I]
    simp only [if_neg e, vu_ne (show 0 ≠ 3 by decide), vu_ne (show 12 ≠ 3 by decide), vu_ne (show 13 ≠ 3 by decide), vu_ne (show 14 ≠ 3 by decide), vu_ne (show 16 ≠ 3 by decide), vu_ne (show 17 ≠ 3 by decide), vu_ne (show 18 ≠ 3 by decide), vu_ne (show 19 ≠ 3 by decide), vu_ne (show 20 ≠ 3 by decide), vu_ne (show 21 ≠ 3 by decide)]
theorem mlI_3 {h : AbH} {m : Nat} {ad : Nat → Nat} {sc : Nat → Int} {ar : Nat → Nat → Int} (hA : mA ad) {i : Int} {f : Int → Prop} : wpLI (mH h m ad sc ar) (some (ad 3)) i f = (0 ≤ i ∧ i < 200 ∧ f (ar 3 i.toNat)) := by
  apply propext
  constructor
  · rintro ⟨a, k, g, e1, e2, h0, h1, hf⟩
    cases e1
    rw [mI_3 hA] at e2
    cases e2
    exact ⟨h0, h1, hf⟩
  · rintro ⟨h0, h1, hf⟩
    exact ⟨_, _, _, rfl, mI_3 hA, h0, h1, hf⟩
theorem msI_3 {h : AbH} {m : Nat} {ad : Nat → Nat} {sc : Nat → Int} {ar : Nat → Nat → Int} (hA : mA ad) {i x : Int} {f : AbH → Prop} : wpSI (mH h m ad sc ar) (some (ad 3)) i x f = (0 ≤ i ∧ i < 200 ∧ f (mH h m ad sc (va_up ar 3 (va_up (ar 3) i.toNat x)))) := by
  apply propext
  constructor
  · rintro ⟨a, k, g, e1, e2, h0, h1, hf⟩
    cases e1
    rw [mI_3 hA] at e2
    cases e2
    rw [mW_3 hA] at hf
    exact ⟨h0, h1, hf⟩
  · rintro ⟨h0, h1, hf⟩
    exact ⟨_, _, _, rfl, mI_3 hA, h0, h1, by rw [mW_3 hA]; exact hf⟩
theorem mI_12 {h : AbH} {m : Nat} {ad : Nat → Nat} {sc : Nat → Int} {ar : Nat → Nat → Int} (hA : mA ad) : hpI (mH h m ad sc ar) (ad 12) = some (6, ar 12) := by
  rw [mH_I, if_neg (mN_12_0 hA), if_neg (mN_12_3 hA), if_pos rfl]
theorem mW_12 {h : AbH} {m : Nat} {ad : Nat → Nat} {sc : Nat → Int} {ar : Nat → Nat → Int} {g : Nat → Int} (hA : mA ad) : hsI (mH h m ad sc ar) (ad 12) (6, g) = mH h m ad sc (va_up ar 12 g) := by
  refine Prod.ext rfl (Prod.ext (funext fun q => ?_) rfl)
  show hpI (hsI (mH h m ad sc ar) (ad 12) (6, g)) q = hpI (mH h m ad sc (va_up ar 12 g)) q
  rw [hI_I]
  by_cases e : q = ad 12
  · subst e
    rw [if_pos rfl, mH_I, if_neg (mN_12_0 hA), if_neg (mN_12_3 hA), if_pos rfl, vu_same]
  · rw [if_neg e, mH_I, mH_I]
    simp only [if_neg e, vu_ne (show 0 ≠ 12 by decide), vu_ne (show 3 ≠ 12 by decide), vu_ne (show 13 ≠ 12 by decide), vu_ne (show 14 ≠ 12 by decide), vu_ne (show 16 ≠ 12 by decide), vu_ne (show 17 ≠ 12 by decide), vu_ne (show 18 ≠ 12 by decide), vu_ne (show 19 ≠ 12 by decide), vu_ne (show 20 ≠ 12 by decide), vu_ne (show 21 ≠ 12 by decide)]
theorem mlI_12 {h : AbH} {m : Nat} {ad : Nat → Nat} {sc : Nat → Int} {ar : Nat → Nat → Int} (hA : mA ad) {i : Int} {f : Int → Prop} : wpLI (mH h m ad sc ar) (some (ad 12)) i f = (0 ≤ i ∧ i < 6 ∧ f (ar 12 i.toNat)) := by
  apply propext
  constructor
  · rintro ⟨a, k, g, e1, e2, h0, h1, hf⟩
    cases e1
    rw [mI_12 hA] at e2
    cases e2
    exact ⟨h0, h1, hf⟩
  · rintro ⟨h0, h1, hf⟩
    exact ⟨_, _, _, rfl, mI_12 hA, h0, h1, hf⟩
theorem msI_12 {h : AbH} {m : Nat} {ad : Nat → Nat} {sc : Nat → Int} {ar : Nat → Nat → Int} (hA : mA ad) {i x : Int} {f : AbH → Prop} : wpSI (mH h m ad sc ar) (some (ad 12)) i x f = (0 ≤ i ∧ i < 6 ∧ f (mH h m ad sc (va_up ar 12 (va_up (ar 12) i.toNat x)))) := by
  apply propext
  constructor
  · rintro ⟨a, k, g, e1, e2, h0, h1, hf⟩
    cases e1
    rw [mI_12 hA] at e2
    cases e2
    rw [mW_12 hA] at hf
    exact ⟨h0, h1, hf⟩
  · rintro ⟨h0, h1, hf⟩
    exact ⟨_, _, _, rfl, mI_12 hA, h0, h1, by rw [mW_12 hA]; exact hf⟩
theorem mI_13 {h : AbH} {m : Nat} {ad : Nat → Nat} {sc : Nat → Int} {ar : Nat → Nat → Int} (hA : mA ad) : hpI (mH h m ad sc ar) (ad 13) = some (16, ar 13) := by
  rw [mH_I, if_neg (mN_13_0 hA), if_neg (mN_13_3 hA), if_neg (mN_13_12 hA), if_pos rfl]
theorem mW_13 {h : AbH} {m : Nat} {ad : Nat → Nat} {sc : Nat → Int} {ar : Nat → Nat → Int} {g : Nat → Int} (hA : mA ad) : hsI (mH h m ad sc ar) (ad 13) (16, g) = mH h m ad sc (va_up ar 13 g) := by
  refine Prod.ext rfl (Prod.ext (funext fun q => ?_) rfl)
  show hpI (hsI (mH h m ad sc ar) (ad 13) (16, g)) q = hpI (mH h m ad sc (va_up ar 13 g)) q
  rw [hI_I]
  by_cases e : q = ad 13
  · subst e
    rw [if_pos rfl, mH_I, if_neg (mN_13_0 hA), if_neg (mN_13_3 hA), if_neg (mN_13_12 hA), if_pos rfl, vu_same]
  · rw [if_neg e, mH_I, mH_I]
    simp only [if_neg e, vu_ne (show 0 ≠ 13 by decide), vu_ne (show 3 ≠ 13 by decide), vu_ne (show 12 ≠ 13 by decide), vu_ne (show 14 ≠ 13 by decide), vu_ne (show 16 ≠ 13 by decide), vu_ne (show 17 ≠ 13 by decide), vu_ne (show 18 ≠ 13 by decide), vu_ne (show 19 ≠ 13 by decide), vu_ne (show 20 ≠ 13 by decide), vu_ne (show 21 ≠ 13 by decide)]
theorem mlI_13 {h : AbH} {m : Nat} {ad : Nat → Nat} {sc : Nat → Int} {ar : Nat → Nat → Int} (hA : mA ad) {i : Int} {f : Int → Prop} : wpLI (mH h m ad sc ar) (some (ad 13)) i f = (0 ≤ i ∧ i < 16 ∧ f (ar 13 i.toNat)) := by
  apply propext
  constructor
  · rintro ⟨a, k, g, e1, e2, h0, h1, hf⟩
    cases e1
    rw [mI_13 hA] at e2
    cases e2
    exact ⟨h0, h1, hf⟩
  · rintro ⟨h0, h1, hf⟩
    exact ⟨_, _, _, rfl, mI_13 hA, h0, h1, hf⟩
theorem msI_13 {h : AbH} {m : Nat} {ad : Nat → Nat} {sc : Nat → Int} {ar : Nat → Nat → Int} (hA : mA ad) {i x : Int} {f : AbH → Prop} : wpSI (mH h m ad sc ar) (some (ad 13)) i x f = (0 ≤ i ∧ i < 16 ∧ f (mH h m ad sc (va_up ar 13 (va_up (ar 13) i.toNat x)))) := by
  apply propext
  constructor
  · rintro ⟨a, k, g, e1, e2, h0, h1, hf⟩
    cases e1
    rw [mI_13 hA] at e2
    cases e2
    rw [mW_13 hA] at hf
    exact ⟨h0, h1, hf⟩
  · rintro ⟨h0, h1, hf⟩
    exact ⟨_, _, _, rfl, mI_13 hA, h0, h1, by rw [mW_13 hA]; exact hf⟩
theorem mI_14 {h : AbH} {m : Nat} {ad : Nat → Nat} {sc : Nat → Int} {ar : Nat → Nat → Int} (hA : mA ad) : hpI (mH h m ad sc ar) (ad 14) = some (10, ar 14) := by
  rw [mH_I, if_neg (mN_14_0 hA), if_neg (mN_14_3 hA), if_neg (mN_14_12 hA), if_neg (mN_14_13 hA), if_pos rfl]
theorem mW_14 {h : AbH} {m : Nat} {ad : Nat → Nat} {sc : Nat → Int} {ar : Nat → Nat → Int} {g : Nat → Int} (hA : mA ad) : hsI (mH h m ad sc ar) (ad 14) (10, g) = mH h m ad sc (va_up ar 14 g) := by
  refine Prod.ext rfl (Prod.ext (funext fun q => ?_) rfl)
  show hpI (hsI (mH h m ad sc ar) (ad 14) (10, g)) q = hpI (mH h m ad sc (va_up ar 14 g)) q
  rw [hI_I]
  by_cases e : q = ad 14
  · subst e
    rw [if_pos rfl, mH_I, if_neg (mN_14_0 hA), if_neg (mN_14_3 hA), if_neg (mN_14_12 hA), if_neg (mN_14_13 hA), if_pos rfl, vu_same]
  · rw [if_neg e, mH_I, mH_I]
    simp only [if_neg e, vu_ne (show 0 ≠ 14 by decide), vu_ne (show 3 ≠ 14 by decide), vu_ne (show 12 ≠ 14 by decide), vu_ne (show 13 ≠ 14 by decide), vu_ne (show 16 ≠ 14 by decide), vu_ne (show 17 ≠ 14 by decide), vu_ne (show 18 ≠ 14 by decide), vu_ne (show 19 ≠ 14 by decide), vu_ne (show 20 ≠ 14 by decide), vu_ne (show 21 ≠ 14 by decide)]
theorem mlI_14 {h : AbH} {m : Nat} {ad : Nat → Nat} {sc : Nat → Int} {ar : Nat → Nat → Int} (hA : mA ad) {i : Int} {f : Int → Prop} : wpLI (mH h m ad sc ar) (some (ad 14)) i f = (0 ≤ i ∧ i < 10 ∧ f (ar 14 i.toNat)) := by
  apply propext
  constructor
  · rintro ⟨a, k, g, e1, e2, h0, h1, hf⟩
    cases e1
    rw [mI_14 hA] at e2
    cases e2
    exact ⟨h0, h1, hf⟩
  · rintro ⟨h0, h1, hf⟩
    exact ⟨_, _, _, rfl, mI_14 hA, h0, h1, hf⟩
theorem msI_14 {h : AbH} {m : Nat} {ad : Nat → Nat} {sc : Nat → Int} {ar : Nat → Nat → Int} (hA : mA ad) {i x : Int} {f : AbH → Prop} : wpSI (mH h m ad sc ar) (some (ad 14)) i x f = (0 ≤ i ∧ i < 10 ∧ f (mH h m ad sc (va_up ar 14 (va_up (ar 14) i.toNat x)))) := by
  apply propext
  constructor
  · rintro ⟨a, k, g, e1, e2, h0, h1, hf⟩
    cases e1
    rw [mI_14 hA] at e2
    cases e2
    rw [mW_14 hA] at hf
    exact ⟨h0, h1, hf⟩
  · rintro ⟨h0, h1, hf⟩
    exact ⟨_, _, _, rfl, mI_14 hA, h0, h1, by rw [mW_14 hA]; exact hf⟩
theorem mI_16 {h : AbH} {m : Nat} {ad : Nat → Nat} {sc : Nat → Int} {ar : Nat → Nat → Int} (hA : mA ad) : hpI (mH h m ad sc ar) (ad 16) = some (10, ar 16) := by
  rw [mH_I, if_neg (mN_16_0 hA), if_neg (mN_16_3 hA), if_neg (mN_16_12 hA), if_neg (mN_16_13 hA), if_neg (mN_16_14 hA), if_pos rfl]
theorem mW_16 {h : AbH} {m : Nat} {ad : Nat → Nat} {sc : Nat → Int} {ar : Nat → Nat → Int} {g : Nat → Int} (hA : mA ad) : hsI (mH h m ad sc ar) (ad 16) (10, g) = mH h m ad sc (va_up ar 16 g) := by
  refine Prod.ext rfl (Prod.ext (funext fun q => ?_) rfl)
  show hpI (hsI (mH h m ad sc ar) (ad 16) (10, g)) q = hpI (mH h m ad sc (va_up ar 16 g)) q
  rw [hI_I]
  by_cases e : q = ad 16
  · subst e
    rw [if_pos rfl, mH_I, if_neg (mN_16_0 hA), if_neg (mN_16_3 hA), if_neg (mN_16_12 hA), if_neg (mN_16_13 hA), if_neg (mN_16_14 hA), if_pos rfl, vu_same]
  · rw [if_neg e, mH_I, mH_I]
    simp only [if_neg e, vu_ne (show 0 ≠ 16 by decide), vu_ne (show 3 ≠ 16 by decide), vu_ne (show 12 ≠ 16 by decide), vu_ne (show 13 ≠ 16 by decide), vu_ne (show 14 ≠ 16 by decide), vu_ne (show 17 ≠ 16 by decide), vu_ne (show 18 ≠ 16 by decide), vu_ne (show 19 ≠ 16 by decide), vu_ne (show 20 ≠ 16 by decide), vu_ne (show 21 ≠ 16 by decide)]
theorem mlI_16 {h : AbH} {m : Nat} {ad : Nat → Nat} {sc : Nat → Int} {ar : Nat → Nat → Int} (hA : mA ad) {i : Int} {f : Int → Prop} : wpLI (mH h m ad sc ar) (some (ad 16)) i f = (0 ≤ i ∧ i < 10 ∧ f (ar 16 i.toNat)) := by
  apply propext
  constructor
  · rintro ⟨a, k, g, e1, e2, h0, h1, hf⟩
    cases e1
    rw [mI_16 hA] at e2
    cases e2
    exact ⟨h0, h1, hf⟩
  · rintro ⟨h0, h1, hf⟩
    exact ⟨_, _, _, rfl, mI_16 hA, h0, h1, hf⟩
theorem msI_16 {h : AbH} {m : Nat} {ad : Nat → Nat} {sc : Nat → Int} {ar : Nat → Nat → Int} (hA : mA ad) {i x : Int} {f : AbH → Prop} : wpSI (mH h m ad sc ar) (some (ad 16)) i x f = (0 ≤ i ∧ i < 10 ∧ f (mH h m ad sc (va_up ar 16 (va_up (ar 16) i.toNat x)))) := by
  apply propext
  constructor
  · rintro ⟨a, k, g, e1, e2, h0, h1, hf⟩
    cases e1
    rw [mI_16 hA] at e2
    cases e2
    rw [mW_16 hA] at hf
    exact ⟨h0, h1, hf⟩
  · rintro ⟨h0, h1, hf⟩
    exact ⟨_, _, _, rfl, mI_16 hA, h0, h1, by rw [mW_16 hA]; exact hf⟩
theorem mI_17 {h : AbH} {m : Nat} {ad : Nat → Nat} {sc : Nat → Int} {ar : Nat → Nat → Int} (hA : mA ad) : hpI (mH h m ad sc ar) (ad 17) = some (12, ar 17) := by
  rw [mH_I, if_neg (mN_17_0 hA), if_neg (mN_17_3 hA), if_neg (mN_17_12 hA), if_neg (mN_17_13 hA), if_neg (mN_17_14 hA), if_neg (mN_17_16 hA), if_pos rfl]
theorem mW_17 {h : AbH} {m : Nat} {ad : Nat → Nat} {sc : Nat → Int} {ar : Nat → Nat → Int} {g : Nat → Int} (hA : mA ad) : hsI (mH h m ad sc ar) (ad 17) (12, g) = mH h m ad sc (va_up ar 17 g) := by
  refine Prod.ext rfl (Prod.ext (funext fun q => ?_) rfl)
  show hpI (hsI (mH h m ad sc ar) (ad 17) (12, g)) q = hpI (mH h m ad sc (va_up ar 17 g)) q
  rw [hI_I]
  by_cases e : q = ad 17
  · subst e
    rw [if_pos rfl, mH_I, if_neg (mN_17_0 hA), if_neg (mN_17_3 hA), if_neg (mN_17_12 hA), if_neg (mN_17_13 hA), if_neg (mN_17_14 hA), if_neg (mN_17_16 hA), if_pos rfl, vu_same]
  · rw [if_neg e, mH_I, mH_I]
    simp only [if_neg e, vu_ne (show 0 ≠ 17 by decide), vu_ne (show 3 ≠ 17 by decide), vu_ne (show 12 ≠ 17 by decide), vu_ne (show 13 ≠ 17 by decide), vu_ne (show 14 ≠ 17 by decide), vu_ne (show 16 ≠ 17 by decide), vu_ne (show 18 ≠ 17 by decide), vu_ne (show 19 ≠ 17 by decide), vu_ne (show 20 ≠ 17 by decide), vu_ne (show 21 ≠ 17 by decide)]
theorem mlI_17 {h : AbH} {m : Nat} {ad : Nat → Nat} {sc : Nat → Int} {ar : Nat → Nat → Int} (hA : mA ad) {i : Int} {f : Int → Prop} : wpLI (mH h m ad sc ar) (some (ad 17)) i f = (0 ≤ i ∧ i < 12 ∧ f (ar 17 i.toNat)) := by
  apply propext
  constructor
  · rintro ⟨a, k, g, e1, e2, h0, h1, hf⟩
    cases e1
    rw [mI_17 hA] at e2
    cases e2
    exact ⟨h0, h1, hf⟩
  · rintro ⟨h0, h1, hf⟩
    exact ⟨_, _, _, rfl, mI_17 hA, h0, h1, hf⟩
theorem msI_17 {h : AbH} {m : Nat} {ad : Nat → Nat} {sc : Nat → Int} {ar : Nat → Nat → Int} (hA : mA ad) {i x : Int} {f : AbH → Prop} : wpSI (mH h m ad sc ar) (some (ad 17)) i x f = (0 ≤ i ∧ i < 12 ∧ f (mH h m ad sc (va_up ar 17 (va_up (ar 17) i.toNat x)))) := by
  apply propext
  constructor
  · rintro ⟨a, k, g, e1, e2, h0, h1, hf⟩
    cases e1
    rw [mI_17 hA] at e2
    cases e2
    rw [mW_17 hA] at hf
    exact ⟨h0, h1, hf⟩
  · rintro ⟨h0, h1, hf⟩
    exact ⟨_, _, _, rfl, mI_17 hA, h0, h1, by rw [mW_17 hA]; exact hf⟩
theorem mI_18 {h : AbH} {m : Nat} {ad : Nat → Nat} {sc : Nat → Int} {ar : Nat → Nat → Int} (hA : mA ad) : hpI (mH h m ad sc ar) (ad 18) = some (12, ar 18) := by
  rw [mH_I, if_neg (mN_18_0 hA), if_neg (mN_18_3 hA), if_neg (mN_18_12 hA), if_neg (mN_18_13 hA), if_neg (mN_18_14 hA), if_neg (mN_18_16 hA), if_neg (mN_18_17 hA), if_pos rfl]
theorem mW_18 {h : AbH} {m : Nat} {ad : Nat → Nat} {sc : Nat → Int} {ar : Nat → Nat → Int} {g : Nat → Int} (hA : mA ad) : hsI (mH h m ad sc ar) (ad 18) (12, g) = mH h m ad sc (va_up ar 18 g) := by
  refine Prod.ext rfl (Prod.ext (funext fun q => ?_) rfl)
  show hpI (hsI (mH h m ad sc ar) (ad 18) (12, g)) q = hpI (mH h m ad sc (va_up ar 18 g)) q
  rw [hI_I]
  by_cases e : q = ad 18
  · subst e
    rw [if_pos rfl, mH_I, if_neg (mN_18_0 hA), if_neg (mN_18_3 hA), if_neg (mN_18_12 hA), if_neg (mN_18_13 hA), if_neg (mN_18_14 hA), if_neg (mN_18_16 hA), if_neg (mN_18_17 hA), if_pos rfl, vu_same]
  · rw [if_neg e, mH_I, mH_I]
    simp only [if_neg e, vu_ne (show 0 ≠ 18 by decide), vu_ne (show 3 ≠ 18 by decide), vu_ne (show 12 ≠ 18 by decide), vu_ne (show 13 ≠ 18 by decide), vu_ne (show 14 ≠ 18 by decide), vu_ne (show 16 ≠ 18 by decide), vu_ne (show 17 ≠ 18 by decide), vu_ne (show 19 ≠ 18 by decide), vu_ne (show 20 ≠ 18 by decide), vu_ne (show 21 ≠ 18 by decide)]
theorem mlI_18 {h : AbH} {m : Nat} {ad : Nat → Nat} {sc : Nat → Int} {ar : Nat → Nat → Int} (hA : mA ad) {i : Int} {f : Int → Prop} : wpLI (mH h m ad sc ar) (some (ad 18)) i f = (0 ≤ i ∧ i < 12 ∧ f (ar 18 i.toNat)) := by
  apply propext
  constructor
  · rintro ⟨a, k, g, e1, e2, h0, h1, hf⟩
    cases e1
    rw [mI_18 hA] at e2
    cases e2
    exact ⟨h0, h1, hf⟩
  · rintro ⟨h0, h1, hf⟩
    exact ⟨_, _, _, rfl, mI_18 hA, h0, h1, hf⟩
theorem msI_18 {h : AbH} {m : Nat} {ad : Nat → Nat} {sc : Nat → Int} {ar : Nat → Nat → Int} (hA : mA ad) {i x : Int} {f : AbH → Prop} : wpSI (mH h m ad sc ar) (some (ad 18)) i x f = (0 ≤ i ∧ i < 12 ∧ f (mH h m ad sc (va_up ar 18 (va_up (ar 18) i.toNat x)))) := by
  apply propext
  constructor
  · rintro ⟨a, k, g, e1, e2, h0, h1, hf⟩
    cases e1
    rw [mI_18 hA] at e2
    cases e2
    rw [mW_18 hA] at hf
    exact ⟨h0, h1, hf⟩
  · rintro ⟨h0, h1, hf⟩
    exact ⟨_, _, _, rfl, mI_18 hA, h0, h1, by rw [mW_18 hA]; exact hf⟩
theorem mI_19 {h : AbH} {m : Nat} {ad : Nat → Nat} {sc : Nat → Int} {ar : Nat → Nat → Int} (hA : mA ad) : hpI (mH h m ad sc ar) (ad 19) = some (12, ar 19) := by
  rw [mH_I, if_neg (mN_19_0 hA), if_neg (mN_19_3 hA), if_neg (mN_19_12 hA), if_neg (mN_19_13 hA), if_neg (mN_19_14 hA), if_neg (mN_19_16 hA), if_neg (mN_19_17 hA), if_neg (mN_19_18 hA), if_pos rfl]
theorem mW_19 {h : AbH} {m : Nat} {ad : Nat → Nat} {sc : Nat → Int} {ar : Nat → Nat → Int} {g : Nat → Int} (hA : mA ad) : hsI (mH h m ad sc ar) (ad 19) (12, g) = mH h m ad sc (va_up ar 19 g) := by
  refine Prod.ext rfl (Prod.ext (funext fun q => ?_) rfl)
  show hpI (hsI (mH h m ad sc ar) (ad 19) (12, g)) q = hpI (mH h m ad sc (va_up ar 19 g)) q
  rw [hI_I]
  by_cases e : q = ad 19
  · subst e
    rw [if_pos rfl, mH_I, if_neg (mN_19_0 hA), if_neg (mN_19_3 hA), if_neg (mN_19_12 hA), if_neg (mN_19_13 hA), if_neg (mN_19_14 hA), if_neg (mN_19_16 hA), if_neg (mN_19_17 hA), if_neg (mN_19_18 hA), if_pos rfl, vu_same]
  · rw [if_neg e, mH_I, mH_I]
    simp only [if_neg e, vu_ne (show 0 ≠ 19 by decide), vu_ne (show 3 ≠ 19 by decide), vu_ne (show 12 ≠ 19 by decide), vu_ne (show 13 ≠ 19 by decide), vu_ne (show 14 ≠ 19 by decide), vu_ne (show 16 ≠ 19 by decide), vu_ne (show 17 ≠ 19 by decide), vu_ne (show 18 ≠ 19 by decide), vu_ne (show 20 ≠ 19 by decide), vu_ne (show 21 ≠ 19 by decide)]
theorem mlI_19 {h : AbH} {m : Nat} {ad : Nat → Nat} {sc : Nat → Int} {ar : Nat → Nat → Int} (hA : mA ad) {i : Int} {f : Int → Prop} : wpLI (mH h m ad sc ar) (some (ad 19)) i f = (0 ≤ i ∧ i < 12 ∧ f (ar 19 i.toNat)) := by
  apply propext
  constructor
  · rintro ⟨a, k, g, e1, e2, h0, h1, hf⟩
    cases e1
    rw [mI_19 hA] at e2
    cases e2
    exact ⟨h0, h1, hf⟩
  · rintro ⟨h0, h1, hf⟩
    exact ⟨_, _, _, rfl, mI_19 hA, h0, h1, hf⟩
theorem msI_19 {h : AbH} {m : Nat} {ad : Nat → Nat} {sc : Nat → Int} {ar : Nat → Nat → Int} (hA : mA ad) {i x : Int} {f : AbH → Prop} : wpSI (mH h m ad sc ar) (some (ad 19)) i x f = (0 ≤ i ∧ i < 12 ∧ f (mH h m ad sc (va_up ar 19 (va_up (ar 19) i.toNat x)))) := by
  apply propext
  constructor
  · rintro ⟨a, k, g, e1, e2, h0, h1, hf⟩
    cases e1
    rw [mI_19 hA] at e2
    cases e2
    rw [mW_19 hA] at hf
    exact ⟨h0, h1, hf⟩
  · rintro ⟨h0, h1, hf⟩
    exact ⟨_, _, _, rfl, mI_19 hA, h0, h1, by rw [mW_19 hA]; exact hf⟩
theorem mI_20 {h : AbH} {m : Nat} {ad : Nat → Nat} {sc : Nat → Int} {ar : Nat → Nat → Int} (hA : mA ad) : hpI (mH h m ad sc ar) (ad 20) = some (3, ar 20) := by
  rw [mH_I, if_neg (mN_20_0 hA), if_neg (mN_20_3 hA), if_neg (mN_20_12 hA), if_neg (mN_20_13 hA), if_neg (mN_20_14 hA), if_neg (mN_20_16 hA), if_neg (mN_20_17 hA), if_neg (mN_20_18 hA), if_neg (mN_20_19 hA), if_pos rfl]
theorem mW_20 {h : AbH} {m : Nat} {ad : Nat → Nat} {sc : Nat → Int} {ar : Nat → Nat → Int} {g : Nat → Int} (hA : mA ad) : hsI (mH h m ad sc ar) (ad 20) (3, g) = mH h m ad sc (va_up ar 20 g) := by
  refine Prod.ext rfl (Prod.ext (funext fun q => ?_) rfl)
  show hpI (hsI (mH h m ad sc ar) (ad 20) (3, g)) q = hpI (mH h m ad sc (va_up ar 20 g)) q
  rw [hI_I]
  by_cases e : q = ad 20
  · subst e
    rw [if_pos rfl, mH_I, if_neg (mN_20_0 hA), if_neg (mN_20_3 hA), if_neg (mN_20_12 hA), if_neg (mN_20_13 hA), if_neg (mN_20_14 hA), if_neg (mN_20_16 hA), if_neg (mN_20_17 hA), if_neg (mN_20_18 hA), if_neg (mN_20_19 hA), if_pos rfl, vu_same]
  · rw [if_neg e, mH_I, mH_I]
    simp only [if_neg e, vu_ne (show 0 ≠ 20 by decide), vu_ne (show 3 ≠ 20 by decide), vu_ne (show 12 ≠ 20 by decide), vu_ne (show 13 ≠ 20 by decide), vu_ne (show 14 ≠ 20 by decide), vu_ne (show 16 ≠ 20 by decide), vu_ne (show 17 ≠ 20 by decide), vu_ne (show 18 ≠ 20 by decide), vu_ne (show 19 ≠ 20 by decide), vu_ne (show 21 ≠ 20 by decide)]
theorem mlI_20 {h : AbH} {m : Nat} {ad : Nat → Nat} {sc : Nat → Int} {ar : Nat → Nat → Int} (hA : mA ad) {i : Int} {f : Int → Prop} : wpLI (mH h m ad sc ar) (some (ad 20)) i f = (0 ≤ i ∧ i < 3 ∧ f (ar 20 i.toNat)) := by
  apply propext
  constructor
  · rintro ⟨a, k, g, e1, e2, h0, h1, hf⟩
    cases e1
    rw [mI_20 hA] at e2
    cases e2
    exact ⟨h0, h1, hf⟩
  · rintro ⟨h0, h1, hf⟩
    exact ⟨_, _, _, rfl, mI_20 hA, h0, h1, hf⟩
theorem msI_20 {h : AbH} {m : Nat} {ad : Nat → Nat} {sc : Nat → Int} {ar : Nat → Nat → Int} (hA : mA ad) {i x : Int} {f : AbH → Prop} : wpSI (mH h m ad sc ar) (some (ad 20)) i x f = (0 ≤ i ∧ i < 3 ∧ f (mH h m ad sc (va_up ar 20 (va_up (ar 20) i.toNat x)))) := by
  apply propext
  constructor
  · rintro ⟨a, k, g, e1, e2, h0, h1, hf⟩
    cases e1
    rw [mI_20 hA] at e2
    cases e2
    rw [mW_20 hA] at hf
    exact ⟨h0, h1, hf⟩
  · rintro ⟨h0, h1, hf⟩
    exact ⟨_, _, _, rfl, mI_20 hA, h0, h1, by rw [mW_20 hA]; exact hf⟩
theorem mI_21 {h : AbH} {m : Nat} {ad : Nat → Nat} {sc : Nat → Int} {ar : Nat → Nat → Int} (hA : mA ad) : hpI (mH h m ad sc ar) (ad 21) = some (40, ar 21) := by
  rw [mH_I, if_neg (mN_21_0 hA), if_neg (mN_21_3 hA), if_neg (mN_21_12 hA), if_neg (mN_21_13 hA), if_neg (mN_21_14 hA), if_neg (mN_21_16 hA), if_neg (mN_21_17 hA), if_neg (mN_21_18 hA), if_neg (mN_21_19 hA), if_neg (mN_21_20 hA), if_pos rfl]
theorem mW_21 {h : AbH} {m : Nat} {ad : Nat → Nat} {sc : Nat → Int} {ar : Nat → Nat → Int} {g : Nat → Int} (hA : mA ad) : hsI (mH h m ad sc ar) (ad 21) (40, g) = mH h m ad sc (va_up ar 21 g) := by
  refine Prod.ext rfl (Prod.ext (funext fun q => ?_) rfl)
  show hpI (hsI (mH h m ad sc ar) (ad 21) (40, g)) q = hpI (mH h m ad sc (va_up ar 21 g)) q
  rw [hI_I]
  by_cases e : q = ad 21
  · subst e
    rw [if_pos rfl, mH_I, if_neg (mN_21_0 hA), if_neg (mN_21_3 hA), if_neg (mN_21_12 hA), if_neg (mN_21_13 hA), if_neg (mN_21_14 hA), if_neg (mN_21_16 hA), if_neg (mN_21_17 hA), if_neg (mN_21_18 hA), if_neg (mN_21_19 hA), if_neg (mN_21_20 hA), if_pos rfl, vu_same]
  · rw [if_neg e, mH_I, mH_I]
    simp only [if_neg e, vu_ne (show 0 ≠ 21 by decide), vu_ne (show 3 ≠ 21 by decide), vu_ne (show 12 ≠ 21 by decide), vu_ne (show 13 ≠ 21 by decide), vu_ne (show 14 ≠ 21 by decide), vu_ne (show 16 ≠ 21 by decide), vu_ne (show 17 ≠ 21 by decide), vu_ne (show 18 ≠ 21 by decide), vu_ne (show 19 ≠ 21 by decide), vu_ne (show 20 ≠ 21 by decide)]
theorem mlI_21 {h : AbH} {m : Nat} {ad : Nat → Nat} {sc : Nat → Int} {ar : Nat → Nat → Int} (hA : mA ad) {i : Int} {f : Int → Prop} : wpLI (mH h m ad sc ar) (some (ad 21)) i f = (0 ≤ i ∧ i < 40 ∧ f (ar 21 i.toNat)) := by
  apply propext
  constructor
  · rintro ⟨a, k, g, e1, e2, h0, h1, hf⟩
    cases e1
    rw [mI_21 hA] at e2
    cases e2
    exact ⟨h0, h1, hf⟩
  · rintro ⟨h0, h1, hf⟩
    exact ⟨_, _, _, rfl, mI_21 hA, h0, h1, hf⟩
theorem msI_21 {h : AbH} {m : Nat} {ad : Nat → Nat} {sc : Nat → Int} {ar : Nat → Nat → Int} (hA : mA ad) {i x : Int} {f : AbH → Prop} : wpSI (mH h m ad sc ar) (some (ad 21)) i x f = (0 ≤ i ∧ i < 40 ∧ f (mH h m ad sc (va_up ar 21 (va_up (ar 21) i.toNat x)))) := by
  apply propext
  constructor
  · rintro ⟨a, k, g, e1, e2, h0, h1, hf⟩
    cases e1
    rw [mI_21 hA] at e2
    cases e2
    rw [mW_21 hA] at hf
    exact ⟨h0, h1, hf⟩
  · rintro ⟨h0, h1, hf⟩
    exact ⟨_, _, _, rfl, mI_21 hA, h0, h1, by rw [mW_21 hA]; exact hf⟩
theorem mZ_2 {h : AbH} {m : Nat} {ad : Nat → Nat} {sc : Nat → Int} {ar : Nat → Nat → Int} (hA : mA ad) : hpZ (mH h m ad sc ar) (ad 2) = some (2, ar 2) := by
  rw [mH_Z, if_pos rfl]
theorem mX_2 {h : AbH} {m : Nat} {ad : Nat → Nat} {sc : Nat → Int} {ar : Nat → Nat → Int} {g : Nat → Int} (hA : mA ad) : hsZ (mH h m ad sc ar) (ad 2) (2, g) = mH h m ad sc (va_up ar 2 g) := by
  refine Prod.ext rfl (Prod.ext (funext fun q => ?_) (Prod.ext rfl (Prod.ext (funext fun q => ?_) rfl)))
  · show hpI (mH h m ad sc ar) q = hpI (mH h m ad sc (va_up ar 2 g)) q
    rw [mH_I, mH_I]
    simp only [vu_ne (show 0 ≠ 2 by decide), vu_ne (show 3 ≠ 2 by decide), vu_ne (show 12 ≠ 2 by decide), vu_ne (show 13 ≠ 2 by decide), vu_ne (show 14 ≠ 2 by decide), vu_ne (show 16 ≠ 2 by decide), vu_ne (show 17 ≠ 2 by decide), vu_ne (show 18 ≠ 2 by decide), vu_ne (show 19 ≠ 2 by decide), vu_ne (show 20 ≠ 2 by decide), vu_ne (show 21 ≠ 2 by decide)]
  · show hpZ (hsZ (mH h m ad sc ar) (ad 2) (2, g)) q = hpZ (mH h m ad sc (va_up ar 2 g)) q
    rw [hZ_Z]
    by_cases e : q = ad 2
    · subst e
      rw [if_pos rfl, mH_Z, if_pos rfl, vu_same]
    · rw [if_neg e, mH_Z, mH_Z]
      simp only [if_neg e, vu_ne (show 7 ≠ 2 by decide)]
theorem mlZ_2 {h : AbH} {m : Nat} {ad : Nat → Nat} {sc : Nat → Int} {ar : Nat → Nat → Int} (hA : mA ad) {i : Int} {f : Int → Prop} : wpLZ (mH h m ad sc ar) (some (ad 2)) i f = (0 ≤ i ∧ i < 2 ∧ f (ar 2 i.toNat)) := by
  apply propext
  constructor
  · rintro ⟨a, k, g, e1, e2, h0, h1, hf⟩
    cases e1
    rw [mZ_2 hA] at e2
    cases e2
    exact ⟨h0, h1, hf⟩
  · rintro ⟨h0, h1, hf⟩
    exact ⟨_, _, _, rfl, mZ_2 hA, h0, h1, hf⟩
theorem msZ_2 {h : AbH} {m : Nat} {ad : Nat → Nat} {sc : Nat → Int} {ar : Nat → Nat → Int} (hA : mA ad) {i x : Int} {f : AbH → Prop} : wpSZ (mH h m ad sc ar) (some (ad 2)) i x f = (0 ≤ i ∧ i < 2 ∧ (x = 0 ∨ x = 1) ∧ f (mH h m ad sc (va_up ar 2 (va_up (ar 2) i.toNat x)))) := by
  apply propext
  constructor
  · rintro ⟨a, k, g, e1, e2, h0, h1, hx, hf⟩
    cases e1
    rw [mZ_2 hA] at e2
    cases e2
    rw [mX_2 hA] at hf
    exact ⟨h0, h1, hx, hf⟩
  · rintro ⟨h0, h1, hx, hf⟩
    exact ⟨_, _, _, rfl, mZ_2 hA, h0, h1, hx, by rw [mX_2 hA]; exact hf⟩
theorem mZ_7 {h : AbH} {m : Nat} {ad : Nat → Nat} {sc : Nat → Int} {ar : Nat → Nat → Int} (hA : mA ad) : hpZ (mH h m ad sc ar) (ad 7) = some (400, ar 7) := by
  rw [mH_Z, if_neg (fun e => hA.2 e.symm), if_pos rfl]
theorem mX_7 {h : AbH} {m : Nat} {ad : Nat → Nat} {sc : Nat → Int} {ar : Nat → Nat → Int} {g : Nat → Int} (hA : mA ad) : hsZ (mH h m ad sc ar) (ad 7) (400, g) = mH h m ad sc (va_up ar 7 g) := by
  refine Prod.ext rfl (Prod.ext (funext fun q => ?_) (Prod.ext rfl (Prod.ext (funext fun q => ?_) rfl)))
  · show hpI (mH h m ad sc ar) q = hpI (mH h m ad sc (va_up ar 7 g)) q
    rw [mH_I, mH_I]
    simp only [vu_ne (show 0 ≠ 7 by decide), vu_ne (show 3 ≠ 7 by decide), vu_ne (show 12 ≠ 7 by decide), vu_ne (show 13 ≠ 7 by decide), vu_ne (show 14 ≠ 7 by decide), vu_ne (show 16 ≠ 7 by decide), vu_ne (show 17 ≠ 7 by decide), vu_ne (show 18 ≠ 7 by decide), vu_ne (show 19 ≠ 7 by decide), vu_ne (show 20 ≠ 7 by decide), vu_ne (show 21 ≠ 7 by decide)]
  · show hpZ (hsZ (mH h m ad sc ar) (ad 7) (400, g)) q = hpZ (mH h m ad sc (va_up ar 7 g)) q
    rw [hZ_Z]
    by_cases e : q = ad 7
    · subst e
      rw [if_pos rfl, mH_Z, if_neg (fun e => hA.2 e.symm), if_pos rfl, vu_same]
    · rw [if_neg e, mH_Z, mH_Z]
      simp only [if_neg e, vu_ne (show 2 ≠ 7 by decide)]
theorem mlZ_7 {h : AbH} {m : Nat} {ad : Nat → Nat} {sc : Nat → Int} {ar : Nat → Nat → Int} (hA : mA ad) {i : Int} {f : Int → Prop} : wpLZ (mH h m ad sc ar) (some (ad 7)) i f = (0 ≤ i ∧ i < 400 ∧ f (ar 7 i.toNat)) := by
  apply propext
  constructor
  · rintro ⟨a, k, g, e1, e2, h0, h1, hf⟩
    cases e1
    rw [mZ_7 hA] at e2
    cases e2
    exact ⟨h0, h1, hf⟩
  · rintro ⟨h0, h1, hf⟩
    exact ⟨_, _, _, rfl, mZ_7 hA, h0, h1, hf⟩
theorem msZ_7 {h : AbH} {m : Nat} {ad : Nat → Nat} {sc : Nat → Int} {ar : Nat → Nat → Int} (hA : mA ad) {i x : Int} {f : AbH → Prop} : wpSZ (mH h m ad sc ar) (some (ad 7)) i x f = (0 ≤ i ∧ i < 400 ∧ (x = 0 ∨ x = 1) ∧ f (mH h m ad sc (va_up ar 7 (va_up (ar 7) i.toNat x)))) := by
  apply propext
  constructor
  · rintro ⟨a, k, g, e1, e2, h0, h1, hx, hf⟩
    cases e1
    rw [mZ_7 hA] at e2
    cases e2
    rw [mX_7 hA] at hf
    exact ⟨h0, h1, hx, hf⟩
  · rintro ⟨h0, h1, hx, hf⟩
    exact ⟨_, _, _, rfl, mZ_7 hA, h0, h1, hx, by rw [mX_7 hA]; exact hf⟩
theorem mCV {h : AbH} {m : Nat} {ad : Nat → Nat} {sc : Nat → Int} {ar : Nat → Nat → Int} {f : Nat → Prop} : wpCV (mH h m ad sc ar) (some m) 9 f = f m := by
  apply propext
  constructor
  · rintro ⟨b, fs, e1, e2, hf⟩
    cases e1
    exact hf
  · intro hf
    exact ⟨m, _, rfl, by rw [mH_O, if_pos rfl], hf⟩
