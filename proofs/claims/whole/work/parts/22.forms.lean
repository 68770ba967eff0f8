/-! laws, loans, forms -/
def lw (w : Nat → Int) (k j : Nat) : Int := w (2 + 6 * k + j)
def lo (w : Nat → Int) (k j : Nat) : Int := w (130 + 22 * k + j)
def nl (w : Nat → Int) : Nat := (w 0).toNat
def no (w : Nat → Int) : Nat := (w 1).toNat
def lawV (t d x y e z : Int) : Prop := tg t ∧ (1 ≤ d ∧ d ≤ 99) ∧ (0 ≤ x ∧ x ≤ 25) ∧ (-1 ≤ y ∧ y ≤ 25) ∧ x ≠ y ∧ (0 ≤ e ∧ e ≤ 2) ∧ (e = 0 → z = -1) ∧ (e ≠ 0 → 0 ≤ z ∧ z ≤ 25)
def loanV (w : Nat → Int) (k : Nat) : Prop := tg (lo w k 0) ∧ tg (lo w k 1) ∧ lo w k 0 ≠ lo w k 1 ∧ (1 ≤ lo w k 2 ∧ lo w k 2 ≤ 8) ∧ (0 ≤ lo w k 3 ∧ lo w k 3 ≤ 10) ∧ (∀ i, i < (lo w k 2).toNat → 0 ≤ lo w k (4 + i) ∧ lo w k (4 + i) ≤ 25) ∧ (∀ i, i < (lo w k 3).toNat → 0 ≤ lo w k (12 + i) ∧ lo w k (12 + i) ≤ 25)
def meetV (a b : Int) : Prop := (a = 0 ∧ b = 0) ∨ (1 ≤ a ∧ a ≤ 100 ∧ a - 1 ≤ b ∧ b ≤ 99)
/-- a world as calls leave it -/
def wV (w : Nat → Int) : Prop := wB w ∧ (∀ k, k < nl w → lawV (lw w k 0) (lw w k 1) (lw w k 2) (lw w k 3) (lw w k 4) (lw w k 5)) ∧ (∀ k, k + 1 < nl w → lw w k 1 < lw w (k + 1) 1 ∨ (lw w k 1 = lw w (k + 1) 1 ∧ lw w k 0 < lw w (k + 1) 0)) ∧ (∀ p, p < 16 → meetV (w (98 + 2 * p)) (w (98 + 2 * p + 1))) ∧ ∀ k, k < no w → loanV w k
theorem wV.met {w : Nat → Int} (h : wV w) : ∀ j, 98 ≤ j → j < 130 → 0 ≤ w j ∧ w j ≤ 100 := by
  intro j h1 h2
  obtain ⟨p, hp⟩ : ∃ p, j = 98 + 2 * p ∨ j = 98 + 2 * p + 1 := ⟨(j - 98) / 2, by omega⟩
  have := h.2.2.2.1 p (by omega)
  unfold meetV at this
  rcases hp with e | e <;> subst e <;> omega
theorem wV.nlw {w : Nat → Int} (h : wV w) : (nl w : Int) = w 0 ∧ nl w ≤ 16 := by
  have := h.1.1
  unfold nl
  omega
theorem wV.now {w : Nat → Int} (h : wV w) : (no w : Int) = w 1 ∧ no w ≤ 12 := by
  have := h.1.2
  unfold no
  omega
/-- the laws alone are as calls leave them -/
def wL (w : Nat → Int) : Prop := (0 ≤ w 0 ∧ w 0 ≤ 16) ∧ ∀ k, k < nl w → lawV (lw w k 0) (lw w k 1) (lw w k 2) (lw w k 3) (lw w k 4) (lw w k 5)
theorem wV.L {w : Nat → Int} (h : wV w) : wL w := ⟨h.1.1, h.2.1⟩
theorem wL.nlw {w : Nat → Int} (h : wL w) : (nl w : Int) = w 0 ∧ nl w ≤ 16 := by
  have := h.1
  unfold nl
  omega
/-- forms: sounds 0 to 25, at most ten -/
def fV (l : List Int) : Prop := l.length ≤ 10 ∧ ∀ i, i < l.length → 0 ≤ l.getD i 0 ∧ l.getD i 0 ≤ 25
/-- whether the law k changes the i-th sound -/
def cgL (w : Nat → Int) (k : Nat) (l : List Int) (i : Nat) : Bool := decide (l.getD i 0 = lw w k 2 ∧ (lw w k 4 = 0 ∨ (lw w k 4 = 1 ∧ i + 1 < l.length ∧ l.getD (i + 1) 0 = lw w k 5) ∨ (lw w k 4 = 2 ∧ 0 < i ∧ l.getD (i - 1) 0 = lw w k 5)))
def apN (c : Nat → Bool) (y : Int) (l : List Int) : Nat → List Int
  | 0 => []
  | n + 1 => apN c y l n ++ (if c n = true then (if y = -1 then [] else [y]) else [l.getD n 0])
def anyN (c : Nat → Bool) : Nat → Bool
  | 0 => false
  | n + 1 => anyN c n || c n
def ap (w : Nat → Int) (k : Nat) (l : List Int) : List Int := apN (cgL w k l) (lw w k 3) l l.length
def ht (w : Nat → Int) (k : Nat) (l : List Int) : Bool := anyN (cgL w k l) l.length
def b2i (b : Bool) : Int := if b = true then 1 else 0
theorem b2i_01 (b : Bool) : b2i b = 0 ∨ b2i b = 1 := by cases b <;> simp [b2i]
theorem b2i_t {b : Bool} (h : b = true) : b2i b = 1 := by rw [h]; rfl
theorem b2i_f {b : Bool} (h : ¬ b = true) : b2i b = 0 := by cases b with
  | true => exact absurd rfl h
  | false => rfl
theorem apN_len (c : Nat → Bool) (y : Int) (l : List Int) : ∀ n, (apN c y l n).length ≤ n
  | 0 => Nat.le_refl _
  | n + 1 => by
    have := apN_len c y l n
    unfold apN
    rw [List.length_append]
    split
    · split
      · simp; omega
      · simp; omega
    · simp; omega
def devN (w : Nat → Int) (t d e : Int) (l : List Int) : Nat → List Int
  | 0 => l
  | n + 1 => if lw w n 0 = t ∧ d < lw w n 1 ∧ lw w n 1 ≤ e then ap w n (devN w t d e l n) else devN w t d e l n
def dev (w : Nat → Int) (t d e : Int) (l : List Int) : List Int := devN w t d e l (nl w)
def word (w : Nat → Int) (k : Nat) : List Int := (List.range (lo w k 2).toNat).map (fun i => lo w k (4 + i))
def wend (w : Nat → Int) (k : Nat) : List Int := (List.range (lo w k 3).toNat).map (fun i => lo w k (12 + i))
def borr (w : Nat → Int) (f t d : Int) (l : List Int) : List Int := dev w t d 99 (dev w f 0 d l)
theorem rg_getD (n : Nat) (g : Nat → Int) (i : Nat) (h : i < n) : ((List.range n).map g).getD i 0 = g i := by
  simp [List.getD_eq_getElem?_getD, h]
theorem getD_app {l : List Int} {x : List Int} {i : Nat} : (l ++ x).getD i 0 = if i < l.length then l.getD i 0 else x.getD (i - l.length) 0 := by
  simp only [List.getD_eq_getElem?_getD]
  split
  next h => rw [List.getElem?_append_left h]
  next h => rw [List.getElem?_append_right (by omega)]
theorem apN_in (c : Nat → Bool) (y : Int) (l : List Int) (hy : -1 ≤ y ∧ y ≤ 25) (hl : ∀ i, i < l.length → 0 ≤ l.getD i 0 ∧ l.getD i 0 ≤ 25) : ∀ n, n ≤ l.length → ∀ i, i < (apN c y l n).length → 0 ≤ (apN c y l n).getD i 0 ∧ (apN c y l n).getD i 0 ≤ 25
  | 0, _ => fun i h => absurd h (by simp [apN])
  | n + 1, hn => by
    intro i hi
    have ih := apN_in c y l hy hl n (by omega)
    unfold apN at hi ⊢
    rw [getD_app]
    rw [List.length_append] at hi
    split
    next h => exact ih i h
    next h =>
      split
      next c1 =>
        rw [if_pos c1] at hi
        split
        next c2 => rw [if_pos c2] at hi; simp at hi; omega
        next c2 =>
          rw [if_neg c2] at hi
          have : i - (apN c y l n).length = 0 := by simp at hi; omega
          rw [this]
          simp
          omega
      next c1 =>
        rw [if_neg c1] at hi
        have : i - (apN c y l n).length = 0 := by simp at hi; omega
        rw [this]
        exact hl n (by omega)
theorem ap_V {w : Nat → Int} {k : Nat} {l : List Int} (hw : wL w) (hk : k < nl w) (hl : fV l) : fV (ap w k l) :=
  ⟨Nat.le_trans (apN_len _ _ _ _) hl.1, apN_in _ _ _ ((hw.2 k hk).2.2.2.1) hl.2 _ (Nat.le_refl _)⟩
theorem devN_V {w : Nat → Int} {t d e : Int} {l : List Int} (hw : wL w) (hl : fV l) : ∀ n, n ≤ nl w → fV (devN w t d e l n)
  | 0, _ => hl
  | n + 1, hn => by
    have ih := devN_V (t := t) (d := d) (e := e) hw hl n (by omega)
    unfold devN
    split
    · exact ap_V hw (by omega) ih
    · exact ih
theorem dev_V {w : Nat → Int} {t d e : Int} {l : List Int} (hw : wL w) (hl : fV l) : fV (dev w t d e l) := devN_V hw hl _ (Nat.le_refl _)
theorem word_V {w : Nat → Int} {k : Nat} (hw : loanV w k) : fV (word w k) := by
  obtain ⟨-, -, -, h4, h5, h6, h7⟩ := hw
  refine ⟨?_, fun i hi => ?_⟩
  · unfold word
    rw [List.length_map, List.length_range]
    omega
  · unfold word at hi ⊢
    rw [List.length_map, List.length_range] at hi
    rw [rg_getD _ _ _ hi]
    exact h6 i hi
theorem wend_V {w : Nat → Int} {k : Nat} (hw : loanV w k) : fV (wend w k) := by
  obtain ⟨-, -, -, h4, h5, h6, h7⟩ := hw
  refine ⟨?_, fun i hi => ?_⟩
  · unfold wend
    rw [List.length_map, List.length_range]
    omega
  · unfold wend at hi ⊢
    rw [List.length_map, List.length_range] at hi
    rw [rg_getD _ _ _ hi]
    exact h7 i hi
/-! the model's state: what changes -/
def mE (S : List Nat) (sc : Nat → Int) (ar : Nat → Nat → Int) (sc' : Nat → Int) (ar' : Nat → Nat → Int) : Prop := (∀ j, j ∉ S → sc' j = sc j) ∧ ∀ j, j ∉ S → ar' j = ar j
theorem mE.rf {S : List Nat} {sc : Nat → Int} {ar : Nat → Nat → Int} : mE S sc ar sc ar := ⟨fun _ _ => rfl, fun _ _ => rfl⟩
theorem mE.tr {S : List Nat} {sc sc' sc'' : Nat → Int} {ar ar' ar'' : Nat → Nat → Int} (h1 : mE S sc ar sc' ar') (h2 : mE S sc' ar' sc'' ar'') : mE S sc ar sc'' ar'' := ⟨fun j hj => (h2.1 j hj).trans (h1.1 j hj), fun j hj => (h2.2 j hj).trans (h1.2 j hj)⟩
theorem mE.mono {S S' : List Nat} {sc sc' : Nat → Int} {ar ar' : Nat → Nat → Int} (h1 : mE S sc ar sc' ar') (hs : ∀ j ∈ S, j ∈ S') : mE S' sc ar sc' ar' := ⟨fun j hj => h1.1 j (fun z => hj (hs j z)), fun j hj => h1.2 j (fun z => hj (hs j z))⟩
theorem mE.sc {S : List Nat} {sc sc' : Nat → Int} {ar ar' : Nat → Nat → Int} {k : Nat} {v : Int} (h : mE S sc ar sc' ar') (hk : k ∈ S) : mE S sc ar (va_up sc' k v) ar' := ⟨fun j hj => by
  have e0 : j ≠ k := fun e => hj (by rw [e]; exact hk)
  rw [vu_ne e0]
  exact h.1 j hj, h.2⟩
theorem mE.ar {S : List Nat} {sc sc' : Nat → Int} {ar ar' : Nat → Nat → Int} {k : Nat} {v : Nat → Int} (h : mE S sc ar sc' ar') (hk : k ∈ S) : mE S sc ar sc' (va_up ar' k v) := ⟨h.1, fun j hj => by
  have e0 : j ≠ k := fun e => hj (by rw [e]; exact hk)
  rw [vu_ne e0]
  exact h.2 j hj⟩
abbrev FS : List Nat := [14, 15, 16]
/-- the form that goes -/
def MF (sc : Nat → Int) (ar : Nat → Nat → Int) (l : List Int) : Prop := sc 15 = (l.length : Int) ∧ ∀ i, i < l.length → ar 14 i = l.getD i 0
set_option maxRecDepth 100000 in
set_option maxHeartbeats 4000000 in
theorem mc_takesWord {d : Nat} {h : AbH} {m : Nat} {ad : Nat → Nat} {sc : Nat → Int} {ar : Nat → Nat → Int} {K : Option AbV → AbH → Prop} (hA : mA ad) {k : Nat} (hk : k < 12) (hw : loanV (ar 0) k) (kk : ∀ sc' ar', mE FS sc ar sc' ar' → MF sc' ar' (word (ar 0) k) → K none (mH h m ad sc' ar')) : Vm (d + 2) m_X10_takesWord [vR (some m), vI (k : Int)] (mH h m ad sc ar) K := by
  obtain ⟨l1, l2, l3, l4, l5, l6, l7⟩ := hw
  have hle : (word (ar 0) k).length = (lo (ar 0) k 2).toNat := by unfold word; rw [List.length_map, List.length_range]
  refine Vm.intro rfl (Nat.le_of_ble_eq_true rfl) (fun _ => B_X10_takesWord_0 ?_)
  simp only [mCV, kI_some, kL_some, kR_some, kV_none, vu_app, mgR_0, mgR_3, mgR_12, mgR_13, mgR_14, mgR_16, mgR_17, mgR_18, mgR_19, mgR_20, mgR_21, mgR_2, mgR_7, mgI_1, mgI_4, mgI_5, mgI_6, mgI_8, mgI_9, mgI_10, mgI_11, mgI_15, mgI_22, mpI_1, mpI_4, mpI_5, mpI_6, mpI_8, mpI_9, mpI_10, mpI_11, mpI_15, mpI_22, mlI_0 hA, mlI_3 hA, mlI_12 hA, mlI_13 hA, mlI_14 hA, mlI_16 hA, mlI_17 hA, mlI_18 hA, mlI_19 hA, mlI_20 hA, mlI_21 hA, msI_0 hA, msI_3 hA, msI_12 hA, msI_13 hA, msI_14 hA, msI_16 hA, msI_17 hA, msI_18 hA, msI_19 hA, msI_20 hA, msI_21 hA, mlZ_2 hA, mlZ_7 hA, msZ_2 hA, msZ_7 hA, kI_some, kL_some, kR_some, kV_none, ne_eq, not_true_eq_false, not_false_eq_true, true_implies, false_implies, implies_true, true_and, and_true, ab_z01, or_true, true_or, reduceCtorEq, Option.some.injEq, Int.reduceEq, Int.reduceNe, Int.reduceLT, Int.reduceLE, Int.reduceNeg, Int.reduceAdd, Int.reduceSub, Int.reduceMul, Nat.reduceEqDiff, Nat.reduceAdd, Nat.reduceMul, Int.reduceToNat, ↓reduceIte]
  refine mc_loanAt (by omega) ?_
  simp only [mCV, kI_some, kL_some, kR_some, kV_none, vu_app, mgR_0, mgR_3, mgR_12, mgR_13, mgR_14, mgR_16, mgR_17, mgR_18, mgR_19, mgR_20, mgR_21, mgR_2, mgR_7, mgI_1, mgI_4, mgI_5, mgI_6, mgI_8, mgI_9, mgI_10, mgI_11, mgI_15, mgI_22, mpI_1, mpI_4, mpI_5, mpI_6, mpI_8, mpI_9, mpI_10, mpI_11, mpI_15, mpI_22, mlI_0 hA, mlI_3 hA, mlI_12 hA, mlI_13 hA, mlI_14 hA, mlI_16 hA, mlI_17 hA, mlI_18 hA, mlI_19 hA, mlI_20 hA, mlI_21 hA, msI_0 hA, msI_3 hA, msI_12 hA, msI_13 hA, msI_14 hA, msI_16 hA, msI_17 hA, msI_18 hA, msI_19 hA, msI_20 hA, msI_21 hA, mlZ_2 hA, mlZ_7 hA, msZ_2 hA, msZ_7 hA, kI_some, kL_some, kR_some, kV_none, ne_eq, not_true_eq_false, not_false_eq_true, true_implies, false_implies, implies_true, true_and, and_true, ab_z01, or_true, true_or, reduceCtorEq, Option.some.injEq, Int.reduceEq, Int.reduceNe, Int.reduceLT, Int.reduceLE, Int.reduceNeg, Int.reduceAdd, Int.reduceSub, Int.reduceMul, Nat.reduceEqDiff, Nat.reduceAdd, Nat.reduceMul, Int.reduceToNat, ↓reduceIte]
  refine ⟨i3 (by omega) (by omega), by omega, by omega, ?_⟩
  have e1 : (130 + 22 * (k : Int) + 2).toNat = 130 + 22 * k + 2 := by omega
  rw [e1]
  have e2 : ar 0 (130 + 22 * k + 2) = ((word (ar 0) k).length : Int) := by
    rw [hle]
    show lo (ar 0) k 2 = _
    omega
  have P := lp_up (P := fun i => ∀ sc' ar', mE FS sc ar sc' ar' → sc' 15 = ((word (ar 0) k).length : Int) → (∀ j, j < i → ar' 14 j = (word (ar 0) k).getD j 0) → Vx (d + 2) m_X10_takesWord 0 0 17 [some (vR (some m)), some (vI (k : Int)), some (vI (i : Int))] [] (mH h m ad sc' ar') K) (n := (word (ar 0) k).length) ?_ ?_ 0 (by omega)
  · refine P _ _ (mE.rf.sc (by decide)) ?_ (fun j hj => absurd hj (by omega))
    rw [vu_same]
    exact e2
  · intro sc' ar' hE h15 hf
    refine B_X10_takesWord_17 ?_
    simp only [mCV, kI_some, kL_some, kR_some, kV_none, vu_app, mgR_0, mgR_3, mgR_12, mgR_13, mgR_14, mgR_16, mgR_17, mgR_18, mgR_19, mgR_20, mgR_21, mgR_2, mgR_7, mgI_1, mgI_4, mgI_5, mgI_6, mgI_8, mgI_9, mgI_10, mgI_11, mgI_15, mgI_22, mpI_1, mpI_4, mpI_5, mpI_6, mpI_8, mpI_9, mpI_10, mpI_11, mpI_15, mpI_22, mlI_0 hA, mlI_3 hA, mlI_12 hA, mlI_13 hA, mlI_14 hA, mlI_16 hA, mlI_17 hA, mlI_18 hA, mlI_19 hA, mlI_20 hA, mlI_21 hA, msI_0 hA, msI_3 hA, msI_12 hA, msI_13 hA, msI_14 hA, msI_16 hA, msI_17 hA, msI_18 hA, msI_19 hA, msI_20 hA, msI_21 hA, mlZ_2 hA, mlZ_7 hA, msZ_2 hA, msZ_7 hA, kI_some, kL_some, kR_some, kV_none, ne_eq, not_true_eq_false, not_false_eq_true, true_implies, false_implies, implies_true, true_and, and_true, ab_z01, or_true, true_or, reduceCtorEq, Option.some.injEq, Int.reduceEq, Int.reduceNe, Int.reduceLT, Int.reduceLE, Int.reduceNeg, Int.reduceAdd, Int.reduceSub, Int.reduceMul, Nat.reduceEqDiff, Nat.reduceAdd, Nat.reduceMul, Int.reduceToNat, ↓reduceIte]
    exact ⟨fun _ => kk sc' ar' hE ⟨h15, hf⟩, fun c => absurd (by omega) c⟩
  · intro i hi ih sc' ar' hE h15 hf
    refine B_X10_takesWord_17 ?_
    simp only [mCV, kI_some, kL_some, kR_some, kV_none, vu_app, mgR_0, mgR_3, mgR_12, mgR_13, mgR_14, mgR_16, mgR_17, mgR_18, mgR_19, mgR_20, mgR_21, mgR_2, mgR_7, mgI_1, mgI_4, mgI_5, mgI_6, mgI_8, mgI_9, mgI_10, mgI_11, mgI_15, mgI_22, mpI_1, mpI_4, mpI_5, mpI_6, mpI_8, mpI_9, mpI_10, mpI_11, mpI_15, mpI_22, mlI_0 hA, mlI_3 hA, mlI_12 hA, mlI_13 hA, mlI_14 hA, mlI_16 hA, mlI_17 hA, mlI_18 hA, mlI_19 hA, mlI_20 hA, mlI_21 hA, msI_0 hA, msI_3 hA, msI_12 hA, msI_13 hA, msI_14 hA, msI_16 hA, msI_17 hA, msI_18 hA, msI_19 hA, msI_20 hA, msI_21 hA, mlZ_2 hA, mlZ_7 hA, msZ_2 hA, msZ_7 hA, kI_some, kL_some, kR_some, kV_none, ne_eq, not_true_eq_false, not_false_eq_true, true_implies, false_implies, implies_true, true_and, and_true, ab_z01, or_true, true_or, reduceCtorEq, Option.some.injEq, Int.reduceEq, Int.reduceNe, Int.reduceLT, Int.reduceLE, Int.reduceNeg, Int.reduceAdd, Int.reduceSub, Int.reduceMul, Nat.reduceEqDiff, Nat.reduceAdd, Nat.reduceMul, Int.reduceToNat, ↓reduceIte]
    refine ⟨fun c => absurd c (by omega), fun _ => mc_loanAt (by omega) ?_⟩
    have e0 : ar' 0 = ar 0 := hE.2 0 (by decide)
    simp only [mCV, kI_some, kL_some, kR_some, kV_none, vu_app, mgR_0, mgR_3, mgR_12, mgR_13, mgR_14, mgR_16, mgR_17, mgR_18, mgR_19, mgR_20, mgR_21, mgR_2, mgR_7, mgI_1, mgI_4, mgI_5, mgI_6, mgI_8, mgI_9, mgI_10, mgI_11, mgI_15, mgI_22, mpI_1, mpI_4, mpI_5, mpI_6, mpI_8, mpI_9, mpI_10, mpI_11, mpI_15, mpI_22, mlI_0 hA, mlI_3 hA, mlI_12 hA, mlI_13 hA, mlI_14 hA, mlI_16 hA, mlI_17 hA, mlI_18 hA, mlI_19 hA, mlI_20 hA, mlI_21 hA, msI_0 hA, msI_3 hA, msI_12 hA, msI_13 hA, msI_14 hA, msI_16 hA, msI_17 hA, msI_18 hA, msI_19 hA, msI_20 hA, msI_21 hA, mlZ_2 hA, mlZ_7 hA, msZ_2 hA, msZ_7 hA, kI_some, kL_some, kR_some, kV_none, ne_eq, not_true_eq_false, not_false_eq_true, true_implies, false_implies, implies_true, true_and, and_true, ab_z01, or_true, true_or, reduceCtorEq, Option.some.injEq, Int.reduceEq, Int.reduceNe, Int.reduceLT, Int.reduceLE, Int.reduceNeg, Int.reduceAdd, Int.reduceSub, Int.reduceMul, Nat.reduceEqDiff, Nat.reduceAdd, Nat.reduceMul, Int.reduceToNat, ↓reduceIte, e0]
    have e3 : (130 + 22 * (k : Int) + 4 + (i : Int)).toNat = 130 + 22 * k + (4 + i) := by omega
    refine ⟨i3 (by omega) (by omega), i3 (by omega) (by omega), by omega, by omega, by omega, by omega, i3 (by omega) (by omega), ?_⟩
    rw [e3, Int.toNat_natCast]
    refine ih _ _ (hE.ar (by decide)) h15 (fun j hj => ?_)
    rw [vu_same, vu_app]
    split
    next e =>
      subst e
      unfold word
      rw [rg_getD _ _ _ (by omega)]
      rfl
    next e => exact hf j (by omega)

def whr (w : Nat → Int) (k : Nat) (b : Nat → Int) (n i : Nat) : Prop := lw w k 4 = 0 ∨ (lw w k 4 = 1 ∧ i + 1 < n ∧ b (i + 1) = lw w k 5) ∨ (lw w k 4 = 2 ∧ 0 < i ∧ b (i - 1) = lw w k 5)
set_option maxRecDepth 100000 in
set_option maxHeartbeats 4000000 in
theorem mc_isWhere {d : Nat} {h : AbH} {m : Nat} {ad : Nat → Nat} {sc : Nat → Int} {ar : Nat → Nat → Int} {K : Option AbV → AbH → Prop} (hA : mA ad) {k i n : Nat} (hw : wL (ar 0)) (hk : k < nl (ar 0)) (hn : n ≤ 10) (hi : i < n) (k1 : whr (ar 0) k (ar 16) n i → K (some (vI 1)) (mH h m ad sc ar)) (k0 : ¬ whr (ar 0) k (ar 16) n i → K (some (vI 0)) (mH h m ad sc ar)) : Vm (d + 2) m_X10_isWhere [vR (some m), vI (k : Int), vI (i : Int), vI (n : Int)] (mH h m ad sc ar) K := by
  obtain ⟨n1, n2⟩ := hw.nlw
  refine Vm.intro rfl (Nat.le_of_ble_eq_true rfl) (fun _ => B_X10_isWhere_0 ?_)
  simp only [mCV]
  refine mc_lawOf hA (j := 4) (by omega) (by decide) ?_
  have e4 : ar 0 (2 + 6 * k + 4) = lw (ar 0) k 4 := rfl
  have e5 : ar 0 (2 + 6 * k + 5) = lw (ar 0) k 5 := rfl
  have e1 : ((i : Int) + 1).toNat = i + 1 := by omega
  have e2 : ((i : Int) - 1).toNat = i - 1 := by omega
  have L5 : ∀ {K : Option AbV → AbH → Prop}, K (some (vI (lw (ar 0) k 5))) (mH h m ad sc ar) → Vm (d + 1) m_X10_lawOf [vR (some m), vI (k : Int), vI 5] (mH h m ad sc ar) K := fun q => mc_lawOf hA (j := 5) (by omega) (by decide) q
  simp only [mCV, kI_some, kL_some, kR_some, kV_none, vu_app, mgR_0, mgR_3, mgR_12, mgR_13, mgR_14, mgR_16, mgR_17, mgR_18, mgR_19, mgR_20, mgR_21, mgR_2, mgR_7, mgI_1, mgI_4, mgI_5, mgI_6, mgI_8, mgI_9, mgI_10, mgI_11, mgI_15, mgI_22, mpI_1, mpI_4, mpI_5, mpI_6, mpI_8, mpI_9, mpI_10, mpI_11, mpI_15, mpI_22, mlI_0 hA, mlI_3 hA, mlI_12 hA, mlI_13 hA, mlI_14 hA, mlI_16 hA, mlI_17 hA, mlI_18 hA, mlI_19 hA, mlI_20 hA, mlI_21 hA, msI_0 hA, msI_3 hA, msI_12 hA, msI_13 hA, msI_14 hA, msI_16 hA, msI_17 hA, msI_18 hA, msI_19 hA, msI_20 hA, msI_21 hA, mlZ_2 hA, mlZ_7 hA, msZ_2 hA, msZ_7 hA, kI_some, kL_some, kR_some, kV_none, ne_eq, not_true_eq_false, not_false_eq_true, true_implies, false_implies, implies_true, true_and, and_true, ab_z01, or_true, true_or, reduceCtorEq, Option.some.injEq, Int.reduceEq, Int.reduceNe, Int.reduceLT, Int.reduceLE, Int.reduceNeg, Int.reduceAdd, Int.reduceSub, Int.reduceMul, Nat.reduceEqDiff, Nat.reduceAdd, Nat.reduceMul, Int.reduceToNat, ↓reduceIte, e4, e1, e2]
  have fin : lw (ar 0) k 4 ≠ 0 → ¬ (lw (ar 0) k 4 = 1 ∧ i + 1 < n ∧ ar 16 (i + 1) = lw (ar 0) k 5) → (¬ lw (ar 0) k 4 = 2 → K (some (vI 0)) (mH h m ad sc ar)) ∧ (¬ ¬ lw (ar 0) k 4 = 2 → ((i : Int) ≤ 0 → K (some (vI 0)) (mH h m ad sc ar)) ∧ (¬ (i : Int) ≤ 0 → in32 ((i : Int) - 1) ∧ 0 ≤ (i : Int) - 1 ∧ (i : Int) - 1 < 10 ∧ Vm (d + 1) m_X10_lawOf [vR (some m), vI (k : Int), vI 5] (mH h m ad sc ar) (kI fun n7 h6 => (¬ ar 16 (i - 1) = n7 → K (some (vI 0)) h6) ∧ (¬ ¬ ar 16 (i - 1) = n7 → K (some (vI 1)) h6)))) := by
    intro z0 z1
    refine ⟨fun c => k0 (fun q => ?_), fun c => ⟨fun c2 => k0 (fun q => ?_), fun c2 => ⟨i3 (by omega) (by omega), by omega, by omega, L5 ?_⟩⟩⟩
    · rcases q with q | q | q
      · exact z0 q
      · exact z1 q
      · exact c q.1
    · rcases q with q | q | q
      · exact z0 q
      · exact z1 q
      · omega
    · simp only [mCV, kI_some, kL_some, kR_some, kV_none, vu_app, mgR_0, mgR_3, mgR_12, mgR_13, mgR_14, mgR_16, mgR_17, mgR_18, mgR_19, mgR_20, mgR_21, mgR_2, mgR_7, mgI_1, mgI_4, mgI_5, mgI_6, mgI_8, mgI_9, mgI_10, mgI_11, mgI_15, mgI_22, mpI_1, mpI_4, mpI_5, mpI_6, mpI_8, mpI_9, mpI_10, mpI_11, mpI_15, mpI_22, mlI_0 hA, mlI_3 hA, mlI_12 hA, mlI_13 hA, mlI_14 hA, mlI_16 hA, mlI_17 hA, mlI_18 hA, mlI_19 hA, mlI_20 hA, mlI_21 hA, msI_0 hA, msI_3 hA, msI_12 hA, msI_13 hA, msI_14 hA, msI_16 hA, msI_17 hA, msI_18 hA, msI_19 hA, msI_20 hA, msI_21 hA, mlZ_2 hA, mlZ_7 hA, msZ_2 hA, msZ_7 hA, kI_some, kL_some, kR_some, kV_none, ne_eq, not_true_eq_false, not_false_eq_true, true_implies, false_implies, implies_true, true_and, and_true, ab_z01, or_true, true_or, reduceCtorEq, Option.some.injEq, Int.reduceEq, Int.reduceNe, Int.reduceLT, Int.reduceLE, Int.reduceNeg, Int.reduceAdd, Int.reduceSub, Int.reduceMul, Nat.reduceEqDiff, Nat.reduceAdd, Nat.reduceMul, Int.reduceToNat, ↓reduceIte]
      refine ⟨fun c3 => k0 (fun q => ?_), fun c3 => k1 (Or.inr (Or.inr ⟨by omega, by omega, by simpa using c3⟩))⟩
      rcases q with q | q | q
      · exact z0 q
      · exact z1 q
      · exact c3 q.2.2
  refine ⟨fun c => k1 (Or.inl c), fun c => ⟨fun c1 => fin c (fun q => c1 q.1), fun c1 => ⟨i3 (by omega) (by omega), fun c2 => fin c (fun q => by omega), fun c2 => ⟨i3 (by omega) (by omega), by omega, by omega, L5 ?_⟩⟩⟩⟩
  simp only [mCV, kI_some, kL_some, kR_some, kV_none, vu_app, mgR_0, mgR_3, mgR_12, mgR_13, mgR_14, mgR_16, mgR_17, mgR_18, mgR_19, mgR_20, mgR_21, mgR_2, mgR_7, mgI_1, mgI_4, mgI_5, mgI_6, mgI_8, mgI_9, mgI_10, mgI_11, mgI_15, mgI_22, mpI_1, mpI_4, mpI_5, mpI_6, mpI_8, mpI_9, mpI_10, mpI_11, mpI_15, mpI_22, mlI_0 hA, mlI_3 hA, mlI_12 hA, mlI_13 hA, mlI_14 hA, mlI_16 hA, mlI_17 hA, mlI_18 hA, mlI_19 hA, mlI_20 hA, mlI_21 hA, msI_0 hA, msI_3 hA, msI_12 hA, msI_13 hA, msI_14 hA, msI_16 hA, msI_17 hA, msI_18 hA, msI_19 hA, msI_20 hA, msI_21 hA, mlZ_2 hA, mlZ_7 hA, msZ_2 hA, msZ_7 hA, kI_some, kL_some, kR_some, kV_none, ne_eq, not_true_eq_false, not_false_eq_true, true_implies, false_implies, implies_true, true_and, and_true, ab_z01, or_true, true_or, reduceCtorEq, Option.some.injEq, Int.reduceEq, Int.reduceNe, Int.reduceLT, Int.reduceLE, Int.reduceNeg, Int.reduceAdd, Int.reduceSub, Int.reduceMul, Nat.reduceEqDiff, Nat.reduceAdd, Nat.reduceMul, Int.reduceToNat, ↓reduceIte, e2]
  exact ⟨fun c3 => k1 (Or.inr (Or.inl ⟨by omega, by omega, c3⟩)), fun c3 => fin c (fun q => c3 q.2.2)⟩
set_option maxRecDepth 100000 in
set_option maxHeartbeats 4000000 in
theorem mc_hits {d : Nat} {h : AbH} {m : Nat} {ad : Nat → Nat} {sc : Nat → Int} {ar : Nat → Nat → Int} {K : Option AbV → AbH → Prop} (hA : mA ad) {k : Nat} {l : List Int} (hw : wL (ar 0)) (hk : k < nl (ar 0)) (hl : fV l) (hM : MF sc ar l) (kk : ∀ sc' ar', mE FS sc ar sc' ar' → MF sc' ar' (ap (ar 0) k l) → K (some (vI (b2i (ht (ar 0) k l)))) (mH h m ad sc' ar')) : Vm (d + 3) m_X10_hits [vR (some m), vI (k : Int)] (mH h m ad sc ar) K := by
  obtain ⟨n1, n2⟩ := hw.nlw
  have hl10 := hl.1
  obtain ⟨v1, v2, v3, v4, v5, v6, v7, v8⟩ := hw.2 k hk
  refine Vm.intro rfl (Nat.le_of_ble_eq_true rfl) (fun _ => B_X10_hits_0 ?_)
  simp only [mCV, kI_some, kL_some, kR_some, kV_none, vu_app, mgR_0, mgR_3, mgR_12, mgR_13, mgR_14, mgR_16, mgR_17, mgR_18, mgR_19, mgR_20, mgR_21, mgR_2, mgR_7, mgI_1, mgI_4, mgI_5, mgI_6, mgI_8, mgI_9, mgI_10, mgI_11, mgI_15, mgI_22, mpI_1, mpI_4, mpI_5, mpI_6, mpI_8, mpI_9, mpI_10, mpI_11, mpI_15, mpI_22, mlI_0 hA, mlI_3 hA, mlI_12 hA, mlI_13 hA, mlI_14 hA, mlI_16 hA, mlI_17 hA, mlI_18 hA, mlI_19 hA, mlI_20 hA, mlI_21 hA, msI_0 hA, msI_3 hA, msI_12 hA, msI_13 hA, msI_14 hA, msI_16 hA, msI_17 hA, msI_18 hA, msI_19 hA, msI_20 hA, msI_21 hA, mlZ_2 hA, mlZ_7 hA, msZ_2 hA, msZ_7 hA, kI_some, kL_some, kR_some, kV_none, ne_eq, not_true_eq_false, not_false_eq_true, true_implies, false_implies, implies_true, true_and, and_true, ab_z01, or_true, true_or, reduceCtorEq, Option.some.injEq, Int.reduceEq, Int.reduceNe, Int.reduceLT, Int.reduceLE, Int.reduceNeg, Int.reduceAdd, Int.reduceSub, Int.reduceMul, Nat.reduceEqDiff, Nat.reduceAdd, Nat.reduceMul, Int.reduceToNat, ↓reduceIte, hM.1]
  -- the second loop
  have P2 := lp_up (P := fun i => ∀ sc' ar', mE FS sc ar sc' ar' → (∀ j, j < l.length → ar' 16 j = l.getD j 0) → MF sc' ar' (apN (cgL (ar 0) k l) (lw (ar 0) k 3) l i) → Vx (d + 3) m_X10_hits 0 0 40 [some (vR (some m)), some (vI (k : Int)), some (vI (l.length : Int)), some (vI (b2i (anyN (cgL (ar 0) k l) i))), some (vI (i : Int)), none, none] [] (mH h m ad sc' ar') K) (n := l.length) ?_ ?_
  · -- the first loop
    refine lp_up (P := fun i => ∀ sc' ar', mE FS sc ar sc' ar' → MF sc' ar' l → (∀ j, j < i → ar' 16 j = l.getD j 0) → Vx (d + 3) m_X10_hits 0 0 7 [some (vR (some m)), some (vI (k : Int)), some (vI (l.length : Int)), some (vI (i : Int)), none, none, none] [] (mH h m ad sc' ar') K) (n := l.length) ?_ ?_ 0 (by omega) sc ar mE.rf hM (fun j hj => absurd hj (by omega))
    · intro sc' ar' hE hF hb
      refine B_X10_hits_7 ⟨fun _ => ?_, fun c => absurd (by omega) c⟩
      simp only [mCV, kI_some, kL_some, kR_some, kV_none, vu_app, mgR_0, mgR_3, mgR_12, mgR_13, mgR_14, mgR_16, mgR_17, mgR_18, mgR_19, mgR_20, mgR_21, mgR_2, mgR_7, mgI_1, mgI_4, mgI_5, mgI_6, mgI_8, mgI_9, mgI_10, mgI_11, mgI_15, mgI_22, mpI_1, mpI_4, mpI_5, mpI_6, mpI_8, mpI_9, mpI_10, mpI_11, mpI_15, mpI_22, mlI_0 hA, mlI_3 hA, mlI_12 hA, mlI_13 hA, mlI_14 hA, mlI_16 hA, mlI_17 hA, mlI_18 hA, mlI_19 hA, mlI_20 hA, mlI_21 hA, msI_0 hA, msI_3 hA, msI_12 hA, msI_13 hA, msI_14 hA, msI_16 hA, msI_17 hA, msI_18 hA, msI_19 hA, msI_20 hA, msI_21 hA, mlZ_2 hA, mlZ_7 hA, msZ_2 hA, msZ_7 hA, kI_some, kL_some, kR_some, kV_none, ne_eq, not_true_eq_false, not_false_eq_true, true_implies, false_implies, implies_true, true_and, and_true, ab_z01, or_true, true_or, reduceCtorEq, Option.some.injEq, Int.reduceEq, Int.reduceNe, Int.reduceLT, Int.reduceLE, Int.reduceNeg, Int.reduceAdd, Int.reduceSub, Int.reduceMul, Nat.reduceEqDiff, Nat.reduceAdd, Nat.reduceMul, Int.reduceToNat, ↓reduceIte]
      exact P2 0 (by omega) _ _ (hE.sc (by decide)) hb ⟨by rw [vu_same]; rfl, fun i hi => absurd hi (by simp [apN])⟩
    · intro i hi ih sc' ar' hE hF hb
      refine B_X10_hits_7 ⟨fun c => absurd c (by omega), fun _ => ?_⟩
      simp only [mCV, kI_some, kL_some, kR_some, kV_none, vu_app, mgR_0, mgR_3, mgR_12, mgR_13, mgR_14, mgR_16, mgR_17, mgR_18, mgR_19, mgR_20, mgR_21, mgR_2, mgR_7, mgI_1, mgI_4, mgI_5, mgI_6, mgI_8, mgI_9, mgI_10, mgI_11, mgI_15, mgI_22, mpI_1, mpI_4, mpI_5, mpI_6, mpI_8, mpI_9, mpI_10, mpI_11, mpI_15, mpI_22, mlI_0 hA, mlI_3 hA, mlI_12 hA, mlI_13 hA, mlI_14 hA, mlI_16 hA, mlI_17 hA, mlI_18 hA, mlI_19 hA, mlI_20 hA, mlI_21 hA, msI_0 hA, msI_3 hA, msI_12 hA, msI_13 hA, msI_14 hA, msI_16 hA, msI_17 hA, msI_18 hA, msI_19 hA, msI_20 hA, msI_21 hA, mlZ_2 hA, mlZ_7 hA, msZ_2 hA, msZ_7 hA, kI_some, kL_some, kR_some, kV_none, ne_eq, not_true_eq_false, not_false_eq_true, true_implies, false_implies, implies_true, true_and, and_true, ab_z01, or_true, true_or, reduceCtorEq, Option.some.injEq, Int.reduceEq, Int.reduceNe, Int.reduceLT, Int.reduceLE, Int.reduceNeg, Int.reduceAdd, Int.reduceSub, Int.reduceMul, Nat.reduceEqDiff, Nat.reduceAdd, Nat.reduceMul, Int.reduceToNat, ↓reduceIte, Int.toNat_natCast]
      refine ⟨by omega, by omega, by omega, by omega, i3 (by omega) (by omega), ih _ _ (hE.ar (by decide)) ⟨hF.1, fun j hj => ?_⟩ (fun j hj => ?_)⟩
      · rw [vu_ne (by decide)]
        exact hF.2 j hj
      · rw [vu_same, vu_app]
        split
        next e => subst e; exact hF.2 j hi
        next e => exact hb j (by omega)
  · intro sc' ar' hE hb hF
    refine B_X10_hits_40 ⟨fun _ => ⟨b2i_01 _, kk sc' ar' hE hF⟩, fun c => absurd (by omega) c⟩
  · intro i hi ih sc' ar' hE hb hF
    have e0 : ar' 0 = ar 0 := hE.2 0 (by decide)
    have hlen := apN_len (cgL (ar 0) k l) (lw (ar 0) k 3) l i
    have hb01 := b2i_01 (anyN (cgL (ar 0) k l) i)
    -- behind 'then'
    have F118 : ∀ (x5 x6 : Int), (if cgL (ar 0) k l i = true then (if lw (ar 0) k 3 = -1 then [] else [lw (ar 0) k 3]) else [l.getD i 0]) = (if x6 = -1 then [] else [x6]) → Vx (d + 3) m_X10_hits 0 0 118 [some (vR (some m)), some (vI (k : Int)), some (vI (l.length : Int)), some (vI (b2i (anyN (cgL (ar 0) k l) (i + 1)))), some (vI (i : Int)), some (vI x5), some (vI x6)] [] (mH h m ad sc' ar') K := by
      intro x5 x6 he
      have hap : apN (cgL (ar 0) k l) (lw (ar 0) k 3) l (i + 1) = apN (cgL (ar 0) k l) (lw (ar 0) k 3) l i ++ (if x6 = -1 then [] else [x6]) := by rw [← he]; rfl
      rw [hap] at ih
      refine B_X10_hits_118 ⟨fun c => ⟨i3 (by omega) (by omega), ?_⟩, fun c => ?_⟩
      · rw [if_pos c, List.append_nil] at ih
        exact ih sc' ar' hE hb hF
      · rw [if_neg c] at ih
        simp only [mCV, kI_some, kL_some, kR_some, kV_none, vu_app, mgR_0, mgR_3, mgR_12, mgR_13, mgR_14, mgR_16, mgR_17, mgR_18, mgR_19, mgR_20, mgR_21, mgR_2, mgR_7, mgI_1, mgI_4, mgI_5, mgI_6, mgI_8, mgI_9, mgI_10, mgI_11, mgI_15, mgI_22, mpI_1, mpI_4, mpI_5, mpI_6, mpI_8, mpI_9, mpI_10, mpI_11, mpI_15, mpI_22, mlI_0 hA, mlI_3 hA, mlI_12 hA, mlI_13 hA, mlI_14 hA, mlI_16 hA, mlI_17 hA, mlI_18 hA, mlI_19 hA, mlI_20 hA, mlI_21 hA, msI_0 hA, msI_3 hA, msI_12 hA, msI_13 hA, msI_14 hA, msI_16 hA, msI_17 hA, msI_18 hA, msI_19 hA, msI_20 hA, msI_21 hA, mlZ_2 hA, mlZ_7 hA, msZ_2 hA, msZ_7 hA, kI_some, kL_some, kR_some, kV_none, ne_eq, not_true_eq_false, not_false_eq_true, true_implies, false_implies, implies_true, true_and, and_true, ab_z01, or_true, true_or, reduceCtorEq, Option.some.injEq, Int.reduceEq, Int.reduceNe, Int.reduceLT, Int.reduceLE, Int.reduceNeg, Int.reduceAdd, Int.reduceSub, Int.reduceMul, Nat.reduceEqDiff, Nat.reduceAdd, Nat.reduceMul, Int.reduceToNat, ↓reduceIte, hF.1, Int.toNat_natCast]
        refine ⟨by omega, by omega, i3 (by omega) (by omega), i3 (by omega) (by omega), ih _ _ ((hE.ar (by decide)).sc (by decide)) (fun j hj => ?_) ⟨?_, fun j hj => ?_⟩⟩
        · rw [vu_ne (by decide)]
          exact hb j hj
        · rw [vu_same, List.length_append]
          rfl
        · rw [vu_same, vu_app, getD_app]
          rw [List.length_append] at hj
          split
          next e =>
            subst e
            rw [if_neg (by omega), Nat.sub_self]
            rfl
          next e =>
            have : j < (apN (cgL (ar 0) k l) (lw (ar 0) k 3) l i).length := by simp at hj; omega
            rw [if_pos this]
            exact hF.2 j this
    have F80 : ∀ c : Bool, cgL (ar 0) k l i = c → Vx (d + 3) m_X10_hits 0 0 80 [some (vR (some m)), some (vI (k : Int)), some (vI (l.length : Int)), some (vI (b2i (anyN (cgL (ar 0) k l) i))), some (vI (i : Int)), some (vI (b2i c)), none] [] (mH h m ad sc' ar') K := by
      intro c hc
      have hnx : anyN (cgL (ar 0) k l) (i + 1) = (anyN (cgL (ar 0) k l) i || c) := by rw [← hc]; rfl
      have F95 : Vx (d + 3) m_X10_hits 0 0 95 [some (vR (some m)), some (vI (k : Int)), some (vI (l.length : Int)), some (vI (b2i (anyN (cgL (ar 0) k l) (i + 1)))), some (vI (i : Int)), some (vI (b2i c)), none] [] (mH h m ad sc' ar') K := by
        cases c with
        | false =>
          refine B_X10_hits_95 ⟨fun _ => ?_, fun c => absurd rfl c⟩
          simp only [mCV, kI_some, kL_some, kR_some, kV_none, vu_app, mgR_0, mgR_3, mgR_12, mgR_13, mgR_14, mgR_16, mgR_17, mgR_18, mgR_19, mgR_20, mgR_21, mgR_2, mgR_7, mgI_1, mgI_4, mgI_5, mgI_6, mgI_8, mgI_9, mgI_10, mgI_11, mgI_15, mgI_22, mpI_1, mpI_4, mpI_5, mpI_6, mpI_8, mpI_9, mpI_10, mpI_11, mpI_15, mpI_22, mlI_0 hA, mlI_3 hA, mlI_12 hA, mlI_13 hA, mlI_14 hA, mlI_16 hA, mlI_17 hA, mlI_18 hA, mlI_19 hA, mlI_20 hA, mlI_21 hA, msI_0 hA, msI_3 hA, msI_12 hA, msI_13 hA, msI_14 hA, msI_16 hA, msI_17 hA, msI_18 hA, msI_19 hA, msI_20 hA, msI_21 hA, mlZ_2 hA, mlZ_7 hA, msZ_2 hA, msZ_7 hA, kI_some, kL_some, kR_some, kV_none, ne_eq, not_true_eq_false, not_false_eq_true, true_implies, false_implies, implies_true, true_and, and_true, ab_z01, or_true, true_or, reduceCtorEq, Option.some.injEq, Int.reduceEq, Int.reduceNe, Int.reduceLT, Int.reduceLE, Int.reduceNeg, Int.reduceAdd, Int.reduceSub, Int.reduceMul, Nat.reduceEqDiff, Nat.reduceAdd, Nat.reduceMul, Int.reduceToNat, ↓reduceIte, Int.toNat_natCast]
          refine ⟨by omega, by omega, F118 _ _ ?_⟩
          rw [hb i hi, hc, if_neg (by decide), if_neg]
          have := hl.2 i hi
          omega
        | true =>
          refine B_X10_hits_95 ⟨fun c => absurd c (by decide), fun _ => ?_⟩
          simp only [mCV]
          refine mc_lawOf hA (j := 3) (by omega) (by decide) ?_
          simp only [mCV, kI_some, kL_some, kR_some, kV_none, vu_app, mgR_0, mgR_3, mgR_12, mgR_13, mgR_14, mgR_16, mgR_17, mgR_18, mgR_19, mgR_20, mgR_21, mgR_2, mgR_7, mgI_1, mgI_4, mgI_5, mgI_6, mgI_8, mgI_9, mgI_10, mgI_11, mgI_15, mgI_22, mpI_1, mpI_4, mpI_5, mpI_6, mpI_8, mpI_9, mpI_10, mpI_11, mpI_15, mpI_22, mlI_0 hA, mlI_3 hA, mlI_12 hA, mlI_13 hA, mlI_14 hA, mlI_16 hA, mlI_17 hA, mlI_18 hA, mlI_19 hA, mlI_20 hA, mlI_21 hA, msI_0 hA, msI_3 hA, msI_12 hA, msI_13 hA, msI_14 hA, msI_16 hA, msI_17 hA, msI_18 hA, msI_19 hA, msI_20 hA, msI_21 hA, mlZ_2 hA, mlZ_7 hA, msZ_2 hA, msZ_7 hA, kI_some, kL_some, kR_some, kV_none, ne_eq, not_true_eq_false, not_false_eq_true, true_implies, false_implies, implies_true, true_and, and_true, ab_z01, or_true, true_or, reduceCtorEq, Option.some.injEq, Int.reduceEq, Int.reduceNe, Int.reduceLT, Int.reduceLE, Int.reduceNeg, Int.reduceAdd, Int.reduceSub, Int.reduceMul, Nat.reduceEqDiff, Nat.reduceAdd, Nat.reduceMul, Int.reduceToNat, ↓reduceIte]
          refine F118 _ _ ?_
          rw [hc, if_pos rfl, e0]
          rfl
      refine B_X10_hits_80 ?_
      rw [hnx] at F95
      cases hany : anyN (cgL (ar 0) k l) i with
      | true =>
        rw [hany] at F95
        exact ⟨fun _ => F95, fun c => absurd (by decide) c⟩
      | false =>
        rw [hany, Bool.false_or] at F95
        refine ⟨fun c => absurd rfl c, fun _ => ?_⟩
        cases c with
        | true => exact ⟨fun e => absurd e (by decide), fun _ => F95⟩
        | false => exact ⟨fun _ => F95, fun e => absurd rfl e⟩
    refine B_X10_hits_40 ⟨fun c => absurd c (by omega), fun _ => ?_⟩
    simp only [mCV, kI_some, kL_some, kR_some, kV_none, vu_app, mgR_0, mgR_3, mgR_12, mgR_13, mgR_14, mgR_16, mgR_17, mgR_18, mgR_19, mgR_20, mgR_21, mgR_2, mgR_7, mgI_1, mgI_4, mgI_5, mgI_6, mgI_8, mgI_9, mgI_10, mgI_11, mgI_15, mgI_22, mpI_1, mpI_4, mpI_5, mpI_6, mpI_8, mpI_9, mpI_10, mpI_11, mpI_15, mpI_22, mlI_0 hA, mlI_3 hA, mlI_12 hA, mlI_13 hA, mlI_14 hA, mlI_16 hA, mlI_17 hA, mlI_18 hA, mlI_19 hA, mlI_20 hA, mlI_21 hA, msI_0 hA, msI_3 hA, msI_12 hA, msI_13 hA, msI_14 hA, msI_16 hA, msI_17 hA, msI_18 hA, msI_19 hA, msI_20 hA, msI_21 hA, mlZ_2 hA, mlZ_7 hA, msZ_2 hA, msZ_7 hA, kI_some, kL_some, kR_some, kV_none, ne_eq, not_true_eq_false, not_false_eq_true, true_implies, false_implies, implies_true, true_and, and_true, ab_z01, or_true, true_or, reduceCtorEq, Option.some.injEq, Int.reduceEq, Int.reduceNe, Int.reduceLT, Int.reduceLE, Int.reduceNeg, Int.reduceAdd, Int.reduceSub, Int.reduceMul, Nat.reduceEqDiff, Nat.reduceAdd, Nat.reduceMul, Int.reduceToNat, ↓reduceIte, Int.toNat_natCast]
    refine ⟨by omega, by omega, mc_lawOf hA (j := 2) (by omega) (by decide) ?_⟩
    rw [e0]
    simp only [mCV, kI_some, kL_some, kR_some, kV_none, vu_app, mgR_0, mgR_3, mgR_12, mgR_13, mgR_14, mgR_16, mgR_17, mgR_18, mgR_19, mgR_20, mgR_21, mgR_2, mgR_7, mgI_1, mgI_4, mgI_5, mgI_6, mgI_8, mgI_9, mgI_10, mgI_11, mgI_15, mgI_22, mpI_1, mpI_4, mpI_5, mpI_6, mpI_8, mpI_9, mpI_10, mpI_11, mpI_15, mpI_22, mlI_0 hA, mlI_3 hA, mlI_12 hA, mlI_13 hA, mlI_14 hA, mlI_16 hA, mlI_17 hA, mlI_18 hA, mlI_19 hA, mlI_20 hA, mlI_21 hA, msI_0 hA, msI_3 hA, msI_12 hA, msI_13 hA, msI_14 hA, msI_16 hA, msI_17 hA, msI_18 hA, msI_19 hA, msI_20 hA, msI_21 hA, mlZ_2 hA, mlZ_7 hA, msZ_2 hA, msZ_7 hA, kI_some, kL_some, kR_some, kV_none, ne_eq, not_true_eq_false, not_false_eq_true, true_implies, false_implies, implies_true, true_and, and_true, ab_z01, or_true, true_or, reduceCtorEq, Option.some.injEq, Int.reduceEq, Int.reduceNe, Int.reduceLT, Int.reduceLE, Int.reduceNeg, Int.reduceAdd, Int.reduceSub, Int.reduceMul, Nat.reduceEqDiff, Nat.reduceAdd, Nat.reduceMul, Int.reduceToNat, ↓reduceIte]
    have e2 : ar 0 (2 + 6 * k + 2) = lw (ar 0) k 2 := rfl
    rw [hb i hi, e2]
    have hwh : whr (ar 0) k (ar' 16) l.length i ↔ (lw (ar 0) k 4 = 0 ∨ (lw (ar 0) k 4 = 1 ∧ i + 1 < l.length ∧ l.getD (i + 1) 0 = lw (ar 0) k 5) ∨ (lw (ar 0) k 4 = 2 ∧ 0 < i ∧ l.getD (i - 1) 0 = lw (ar 0) k 5)) := by
      unfold whr
      by_cases q : i + 1 < l.length
      · rw [hb (i + 1) q, hb (i - 1) (by omega)]
      · rw [hb (i - 1) (by omega)]
        simp only [q, false_and, and_false]
    refine ⟨fun c => F80 false (by unfold cgL; exact decide_eq_false (fun q => c q.1)), fun c => mc_isWhere hA (by rw [e0]; exact hw) (by rw [e0]; exact hk) hl10 hi (fun q => ?_) (fun q => ?_)⟩
    · simp only [mCV, kI_some, kL_some, kR_some, kV_none, vu_app, mgR_0, mgR_3, mgR_12, mgR_13, mgR_14, mgR_16, mgR_17, mgR_18, mgR_19, mgR_20, mgR_21, mgR_2, mgR_7, mgI_1, mgI_4, mgI_5, mgI_6, mgI_8, mgI_9, mgI_10, mgI_11, mgI_15, mgI_22, mpI_1, mpI_4, mpI_5, mpI_6, mpI_8, mpI_9, mpI_10, mpI_11, mpI_15, mpI_22, mlI_0 hA, mlI_3 hA, mlI_12 hA, mlI_13 hA, mlI_14 hA, mlI_16 hA, mlI_17 hA, mlI_18 hA, mlI_19 hA, mlI_20 hA, mlI_21 hA, msI_0 hA, msI_3 hA, msI_12 hA, msI_13 hA, msI_14 hA, msI_16 hA, msI_17 hA, msI_18 hA, msI_19 hA, msI_20 hA, msI_21 hA, mlZ_2 hA, mlZ_7 hA, msZ_2 hA, msZ_7 hA, kI_some, kL_some, kR_some, kV_none, ne_eq, not_true_eq_false, not_false_eq_true, true_implies, false_implies, implies_true, true_and, and_true, ab_z01, or_true, true_or, reduceCtorEq, Option.some.injEq, Int.reduceEq, Int.reduceNe, Int.reduceLT, Int.reduceLE, Int.reduceNeg, Int.reduceAdd, Int.reduceSub, Int.reduceMul, Nat.reduceEqDiff, Nat.reduceAdd, Nat.reduceMul, Int.reduceToNat, ↓reduceIte]
      rw [e0] at q
      exact F80 true (by unfold cgL; exact decide_eq_true ⟨by simpa using c, hwh.mp q⟩)
    · simp only [mCV, kI_some, kL_some, kR_some, kV_none, vu_app, mgR_0, mgR_3, mgR_12, mgR_13, mgR_14, mgR_16, mgR_17, mgR_18, mgR_19, mgR_20, mgR_21, mgR_2, mgR_7, mgI_1, mgI_4, mgI_5, mgI_6, mgI_8, mgI_9, mgI_10, mgI_11, mgI_15, mgI_22, mpI_1, mpI_4, mpI_5, mpI_6, mpI_8, mpI_9, mpI_10, mpI_11, mpI_15, mpI_22, mlI_0 hA, mlI_3 hA, mlI_12 hA, mlI_13 hA, mlI_14 hA, mlI_16 hA, mlI_17 hA, mlI_18 hA, mlI_19 hA, mlI_20 hA, mlI_21 hA, msI_0 hA, msI_3 hA, msI_12 hA, msI_13 hA, msI_14 hA, msI_16 hA, msI_17 hA, msI_18 hA, msI_19 hA, msI_20 hA, msI_21 hA, mlZ_2 hA, mlZ_7 hA, msZ_2 hA, msZ_7 hA, kI_some, kL_some, kR_some, kV_none, ne_eq, not_true_eq_false, not_false_eq_true, true_implies, false_implies, implies_true, true_and, and_true, ab_z01, or_true, true_or, reduceCtorEq, Option.some.injEq, Int.reduceEq, Int.reduceNe, Int.reduceLT, Int.reduceLE, Int.reduceNeg, Int.reduceAdd, Int.reduceSub, Int.reduceMul, Nat.reduceEqDiff, Nat.reduceAdd, Nat.reduceMul, Int.reduceToNat, ↓reduceIte]
      rw [e0] at q
      exact F80 false (by unfold cgL; exact decide_eq_false (fun z => q (hwh.mpr z.2)))
