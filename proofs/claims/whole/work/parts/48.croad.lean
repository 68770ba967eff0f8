/-! roads, in the class: development day by day -/
theorem lw_slt {w : Nat → Int} (hw : wV w) : ∀ j i, i < j → j < nl w → lw w i 1 < lw w j 1 ∨ (lw w i 1 = lw w j 1 ∧ lw w i 0 < lw w j 0)
  | 0, i, h, _ => absurd h (by omega)
  | j + 1, i, h, hj => by
    have h1 := hw.2.2.1 j hj
    by_cases e : i = j
    · rw [e]; exact h1
    · have h2 := lw_slt hw j i (by omega) (by omega)
      omega
theorem lw_inj {w : Nat → Int} (hw : wV w) {i j : Nat} (hi : i < nl w) (hj : j < nl w) (h0 : lw w i 0 = lw w j 0) (h1 : lw w i 1 = lw w j 1) : i = j := by
  rcases Nat.lt_trichotomy i j with c | c | c
  · have := lw_slt hw j i c hj
    omega
  · exact c
  · have := lw_slt hw i j c hi
    omega
theorem devN_id {w : Nat → Int} {t d e : Int} {l : List Int} : ∀ n, (∀ j, j < n → ¬ (lw w j 0 = t ∧ d < lw w j 1 ∧ lw w j 1 ≤ e)) → devN w t d e l n = l
  | 0, _ => rfl
  | n + 1, h => by
    show (if lw w n 0 = t ∧ d < lw w n 1 ∧ lw w n 1 ≤ e then ap w n (devN w t d e l n) else devN w t d e l n) = l
    rw [if_neg (h n (by omega)), devN_id n (fun j hj => h j (by omega))]
theorem devN_cmp {w : Nat → Int} {t d e e' : Int} {l : List Int} (hw : wV w) (h1 : d ≤ e) (h2 : e ≤ e') : ∀ n, n ≤ nl w → devN w t e e' (devN w t d e l n) n = devN w t d e' l n
  | 0, _ => rfl
  | n + 1, hn => by
    have ih := devN_cmp (t := t) (l := l) hw h1 h2 n (by omega)
    have hs : devN w t d e l (n + 1) = if lw w n 0 = t ∧ d < lw w n 1 ∧ lw w n 1 ≤ e then ap w n (devN w t d e l n) else devN w t d e l n := rfl
    have hs' : devN w t d e' l (n + 1) = if lw w n 0 = t ∧ d < lw w n 1 ∧ lw w n 1 ≤ e' then ap w n (devN w t d e' l n) else devN w t d e' l n := rfl
    by_cases c : lw w n 1 ≤ e
    · rw [devN_id (n + 1) (fun j hj z => by have := lw_mono hw n j (by omega) (by omega); omega)]
      have e1 : devN w t e e' (devN w t d e l n) n = devN w t d e l n := devN_id n (fun j hj z => by have := lw_mono hw n j (by omega) (by omega); omega)
      rw [hs, hs', ← ih, e1]
      by_cases q : lw w n 0 = t ∧ d < lw w n 1
      · rw [if_pos ⟨q.1, q.2, c⟩, if_pos ⟨q.1, q.2, by omega⟩]
      · rw [if_neg (fun z => q ⟨z.1, z.2.1⟩), if_neg (fun z => q ⟨z.1, z.2.1⟩)]
    · rw [hs', hs, if_neg (fun z => c z.2.2), ← ih]
      show (if lw w n 0 = t ∧ e < lw w n 1 ∧ lw w n 1 ≤ e' then ap w n (devN w t e e' (devN w t d e l n) n) else devN w t e e' (devN w t d e l n) n) = _
      by_cases q : lw w n 0 = t ∧ lw w n 1 ≤ e'
      · rw [if_pos ⟨q.1, by omega, q.2⟩, if_pos ⟨q.1, by omega, q.2⟩]
      · rw [if_neg (fun z => q ⟨z.1, z.2.2⟩), if_neg (fun z => q ⟨z.1, z.2.2⟩)]
theorem dev_cmp {w : Nat → Int} {t d e e' : Int} {l : List Int} (hw : wV w) (h1 : d ≤ e) (h2 : e ≤ e') : dev w t e e' (dev w t d e l) = dev w t d e' l := devN_cmp hw h1 h2 _ (Nat.le_refl _)
theorem dev_id {w : Nat → Int} {t d e : Int} {l : List Int} (h : ∀ j, j < nl w → ¬ (lw w j 0 = t ∧ d < lw w j 1 ∧ lw w j 1 ≤ e)) : dev w t d e l = l := devN_id _ h
theorem devN_one {w : Nat → Int} {k : Nat} {l : List Int} (hw : wV w) (hk : k < nl w) : ∀ n, n ≤ nl w → devN w (lw w k 0) (lw w k 1 - 1) (lw w k 1) l n = if k < n then ap w k l else l
  | 0, _ => rfl
  | n + 1, hn => by
    have ih := devN_one (l := l) hw hk n (by omega)
    show (if lw w n 0 = lw w k 0 ∧ lw w k 1 - 1 < lw w n 1 ∧ lw w n 1 ≤ lw w k 1 then ap w n (devN w (lw w k 0) (lw w k 1 - 1) (lw w k 1) l n) else devN w (lw w k 0) (lw w k 1 - 1) (lw w k 1) l n) = _
    rw [ih]
    by_cases e : n = k
    · rw [e, if_pos ⟨rfl, by omega, by omega⟩, if_neg (by omega), if_pos (by omega)]
    · rw [if_neg (fun z => e (lw_inj hw (by omega) hk z.1 (by omega)))]
      by_cases c : k < n
      · rw [if_pos c, if_pos (by omega)]
      · rw [if_neg c, if_neg (by omega)]
theorem dev_one {w : Nat → Int} {k : Nat} {l : List Int} (hw : wV w) (hk : k < nl w) : dev w (lw w k 0) (lw w k 1 - 1) (lw w k 1) l = ap w k l := by
  unfold dev
  rw [devN_one hw hk _ (Nat.le_refl _), if_pos hk]
/-- borrowed in vain -/
def Vn (w : Nat → Int) (E : List Int) (g : Int) (m : Nat) (t : Int) (d : Nat) (f : List Int) : Prop := ∀ l, l.length = m → okP w d l → ¬ arrM w E g t d f l
theorem okP_le {w : Nat → Int} {d0 d : Nat} (h : d0 ≤ d) : ∀ l, okP w d l → okP w d0 l
  | [], _ => True.intro
  | c :: cs, hk => ⟨hk.1, by have := hk.2.1; omega, hk.2.2.1, hk.2.2.2⟩
theorem arr_age {w : Nat → Int} {E : List Int} {g t : Int} {d0 d : Nat} {f : List Int} (hw : wV w) (h : d0 ≤ d) (h99 : d ≤ 99) : ∀ l, okP w d l → (arrM w E g t d (dev w t (d0 : Int) (d : Int) f) l ↔ arrM w E g t d0 f l)
  | [], _ => by
    show (t = g ∧ dev w t (d : Int) 99 (dev w t (d0 : Int) (d : Int) f) = E) ↔ (t = g ∧ dev w t (d0 : Int) 99 f = E)
    rw [dev_cmp hw (by omega) (by omega)]
  | c :: cs, hk => by
    have h1 := hk.2.1
    show (wMet w t ((c % 4 : Nat) : Int) ((c / 4 : Nat) : Int) ∧ arrM w E g ((c % 4 : Nat) : Int) (c / 4) (dev w t (d : Int) ((c / 4 : Nat) : Int) (dev w t (d0 : Int) (d : Int) f)) cs) ↔ (wMet w t ((c % 4 : Nat) : Int) ((c / 4 : Nat) : Int) ∧ arrM w E g ((c % 4 : Nat) : Int) (c / 4) (dev w t (d0 : Int) ((c / 4 : Nat) : Int) f) cs)
    rw [dev_cmp hw (by omega) (by omega)]
theorem Vn.age {w : Nat → Int} {E : List Int} {g t : Int} {m d0 d : Nat} {f : List Int} (v : Vn w E g m t d0 f) (hw : wV w) (h : d0 ≤ d) (h99 : d ≤ 99) : Vn w E g m t d (dev w t (d0 : Int) (d : Int) f) := fun l hl hk z => v l hl (okP_le h l hk) ((arr_age hw h h99 l hk).mp z)
/-! the way's object -/
def wyH (h : AbH) (tr st : Nat) (T S : Nat → Int) : AbH := hsI (hsJ h tr (12, T)) st (3, S)
theorem wy_J {h : AbH} {tr st : Nat} {T T' S : Nat → Int} : hsJ (wyH h tr st T S) tr (12, T') = wyH h tr st T' S := by
  unfold wyH hsI hsJ
  rw [vu_up]
theorem wy_I {h : AbH} {tr st : Nat} {T S S' : Nat → Int} : hsI (wyH h tr st T S) st (3, S') = wyH h tr st T S' := by
  unfold wyH hsI hsJ
  rw [vu_up]
theorem wy_tr {h : AbH} {tr st : Nat} {T S : Nat → Int} : hpJ (wyH h tr st T S) tr = some (12, T) := by
  show hpJ (hsJ h tr (12, T)) tr = _
  rw [hJ_J, if_pos rfl]
theorem wy_st {h : AbH} {tr st : Nat} {T S : Nat → Int} : hpI (wyH h tr st T S) st = some (3, S) := by
  unfold wyH
  rw [hI_I, if_pos rfl]
theorem xt_wy {P : Nat → Prop} {h : AbH} {tr st : Nat} {T S : Nat → Int} (h1 : P tr) (h2 : P st) : Xt P h (wyH h tr st T S) := (xt_J (Or.inl h1)).tr (xt_I (Or.inl h2))
theorem sJ_i {h : AbH} {a n : Nat} {i v : Int} {g : Nat → Int} {f : AbH → Prop} (ho : hpJ h a = some (n, g)) (h1 : 0 ≤ i) (h2 : i < (n : Int)) (hf : f (hsJ h a (n, va_up g i.toNat v))) : wpSJ h (some a) i v f := ⟨a, n, g, rfl, ho, h1, h2, hf⟩
theorem sZ_i {h : AbH} {a n : Nat} {i v : Int} {g : Nat → Int} {f : AbH → Prop} (ho : hpZ h a = some (n, g)) (h1 : 0 ≤ i) (h2 : i < (n : Int)) (hv : v = 0 ∨ v = 1) (hf : f (hsZ h a (n, va_up g i.toNat v))) : wpSZ h (some a) i v f := ⟨a, n, g, rfl, ho, h1, h2, hv, hf⟩
def bz (w : Nat → Int) (D : Nat) : Prop := (∃ k, k < nl w ∧ lw w k 1 = (D : Int)) ∨ ∃ p, p < 16 ∧ w (98 + 2 * p) = (D : Int) + 1
theorem bz_beg {w : Nat → Int} {D : Nat} : bz w D → begB w D = true := by
  intro h
  unfold begB
  rw [Bool.or_eq_true, Bool.or_eq_true, anyN_iff, anyN_iff]
  rcases h with ⟨k, h1, h2⟩ | ⟨p, h1, h2⟩
  · exact Or.inl (Or.inr ⟨k, h1, decide_eq_true h2⟩)
  · exact Or.inr ⟨p, h1, decide_eq_true h2⟩
theorem beg_bz {w : Nat → Int} {D : Nat} (h0 : 0 < D) : begB w D = true → bz w D := by
  intro h
  unfold begB at h
  rw [Bool.or_eq_true, Bool.or_eq_true, anyN_iff, anyN_iff] at h
  rcases h with (h | ⟨k, h1, h2⟩) | ⟨p, h1, h2⟩
  · have := of_decide_eq_true h
    omega
  · exact Or.inl ⟨k, h1, of_decide_eq_true h2⟩
  · exact Or.inr ⟨p, h1, of_decide_eq_true h2⟩
/-- prepared, with the first N laws and the first M meetings -/
def PW (w : Nat → Int) (h : AbH) (N M : Nat) (LW : Nat → Option Nat) (BZ : Nat → Int) : Prop := (∀ D t : Nat, D < 100 → t < 4 → (∃ k b, k < nl w ∧ k < N ∧ LW (4 * D + t) = some b ∧ hpO h b = some (0, lwF w k) ∧ lw w k 0 = (t : Int) ∧ lw w k 1 = (D : Int)) ∨ (LW (4 * D + t) = none ∧ ∀ k, k < nl w → k < N → ¬ (lw w k 0 = (t : Int) ∧ lw w k 1 = (D : Int)))) ∧ ∀ D, D < 100 → (BZ D ≠ 0 ↔ (∃ k, k < nl w ∧ k < N ∧ lw w k 1 = (D : Int)) ∨ ∃ p, p < 16 ∧ p < M ∧ w (98 + 2 * p) = (D : Int) + 1)
def wyF (ql qb tr st : Nat) (E g n : Int) : List AbV := [vR (some ql), vR (some qb), vR (some tr), vR (some st), vL E, vI g, vI n]
set_option maxRecDepth 100000 in
set_option maxHeartbeats 4000000 in
theorem cc_vbusy {d : Nat} {h : AbH} {K : Option AbV → AbH → Prop} {v ql qb tr st : Nat} {E g n : Int} {w : Nat → Int} {LW : Nat → Option Nat} {BZ : Nat → Int} {D : Nat} {h0 : AbH} (hw : wV w) (ho : hpO h v = some (5, wyF ql qb tr st E g n)) (hb : hpZ h qb = some (100, BZ)) (hp : PW w h0 16 16 LW BZ) (hD : D < 100) (k1 : bz w D → K (some (vI 1)) h) (k0 : ¬ bz w D → K (some (vI 0)) h) : Vm (d + 3) m_X6_isBusy [vR (some v), vI (D : Int)] h K := by
  obtain ⟨n1, n2⟩ := hw.nlw
  have e : BZ D ≠ 0 ↔ bz w D := by
    rw [hp.2 D hD]
    unfold bz
    exact ⟨fun z => z.elim (fun ⟨k, a, _, c⟩ => Or.inl ⟨k, a, c⟩) (fun ⟨p, a, _, c⟩ => Or.inr ⟨p, a, c⟩), fun z => z.elim (fun ⟨k, a, c⟩ => Or.inl ⟨k, a, by omega, c⟩) (fun ⟨p, a, c⟩ => Or.inr ⟨p, a, a, c⟩)⟩
  refine Vm.intro rfl (Nat.le_of_ble_eq_true rfl) (fun _ => B_X6_isBusy_0 ?_)
  refine cc_isDate (fun _ => ?_) (fun q => absurd (by omega) q)
  simp only [kI_some, kL_some, kR_some, kV_none, ne_eq, not_true_eq_false, not_false_eq_true, true_implies, false_implies, implies_true, true_and, and_true, ab_z01, or_true, true_or, reduceCtorEq, Option.some.injEq, Int.reduceEq, Int.reduceNe, Int.reduceLT, Int.reduceLE, Int.reduceNeg, Int.reduceAdd, Int.reduceSub, Int.reduceMul, Nat.reduceEqDiff, Nat.reduceAdd, Nat.reduceMul, Int.reduceToNat, ↓reduceIte]
  refine gR_i ho rfl (lZ_i hb (by omega) (by omega) ?_)
  rw [Int.toNat_natCast]
  exact ⟨fun q => k0 (fun z => e.mpr z q), fun q => k1 (e.mp q)⟩
set_option maxRecDepth 100000 in
set_option maxHeartbeats 4000000 in
theorem cc_vchanged {d : Nat} {h : AbH} {K : Option AbV → AbH → Prop} {v ql qb tr st : Nat} {E g n : Int} {w : Nat → Int} {LW : Nat → Option Nat} {BZ : Nat → Int} {D t : Nat} {f : List Int} (hw : wV w) (ho : hpO h v = some (5, wyF ql qb tr st E g n)) (hl : hpR h ql = some (0, 400, LW)) (hp : PW w h 16 16 LW BZ) (hD : D < 100) (ht : t < 4) (hf : fV f) (kk : K (some (vL (enc (dev w (t : Int) ((D : Int) - 1) (D : Int) f) : Int))) h) : Vm (d + 3) m_X6_changed [vR (some v), vL (enc f : Int), vI (t : Int), vI (D : Int)] h K := by
  obtain ⟨n1, n2⟩ := hw.nlw
  refine Vm.intro rfl (Nat.le_of_ble_eq_true rfl) (fun _ => B_X6_changed_0 ?_)
  refine cc_isDate (fun _ => ?_) (fun q => absurd (by omega) q)
  simp only [kI_some, kL_some, kR_some, kV_none, ne_eq, not_true_eq_false, not_false_eq_true, true_implies, false_implies, implies_true, true_and, and_true, ab_z01, or_true, true_or, reduceCtorEq, Option.some.injEq, Int.reduceEq, Int.reduceNe, Int.reduceLT, Int.reduceLE, Int.reduceNeg, Int.reduceAdd, Int.reduceSub, Int.reduceMul, Nat.reduceEqDiff, Nat.reduceAdd, Nat.reduceMul, Int.reduceToNat, ↓reduceIte]
  refine cc_isTongue (fun _ => ?_) (fun q => absurd ⟨by omega, by omega⟩ q)
  simp only [kI_some, kL_some, kR_some, kV_none, ne_eq, not_true_eq_false, not_false_eq_true, true_implies, false_implies, implies_true, true_and, and_true, ab_z01, or_true, true_or, reduceCtorEq, Option.some.injEq, Int.reduceEq, Int.reduceNe, Int.reduceLT, Int.reduceLE, Int.reduceNeg, Int.reduceAdd, Int.reduceSub, Int.reduceMul, Nat.reduceEqDiff, Nat.reduceAdd, Nat.reduceMul, Int.reduceToNat, ↓reduceIte]
  refine gR_i ho rfl ⟨i3 (by omega) (by omega), i3 (by omega) (by omega), lR_i hl (by omega) (by omega) ?_⟩
  rw [show ((D : Int) * 4 + (t : Int)).toNat = 4 * D + t by omega]
  rcases hp.1 D t hD ht with ⟨k, b, q1, q2, q3, q4, q5, q6⟩ | ⟨q1, q2⟩
  · rw [q3]
    refine ⟨fun _ => ?_, fun z => absurd (by simp) z⟩
    refine cv_i q4 (cc_applied (hw.2.1 k q1) q4 hf ?_)
    simp only [kI_some, kL_some, kR_some, kV_none, ne_eq, not_true_eq_false, not_false_eq_true, true_implies, false_implies, implies_true, true_and, and_true, ab_z01, or_true, true_or, reduceCtorEq, Option.some.injEq, Int.reduceEq, Int.reduceNe, Int.reduceLT, Int.reduceLE, Int.reduceNeg, Int.reduceAdd, Int.reduceSub, Int.reduceMul, Nat.reduceEqDiff, Nat.reduceAdd, Nat.reduceMul, Int.reduceToNat, ↓reduceIte]
    rw [← q5, ← q6, dev_one hw q1] at kk
    exact kk
  · rw [q1]
    refine ⟨fun z => absurd rfl z, fun _ => ?_⟩
    rw [dev_id (fun j hj z => q2 j hj (by omega) ⟨z.1, by omega⟩)] at kk
    exact kk
/-- one slot of what was tried -/
def tS (w : Nat → Int) (E : List Int) (g : Int) (m j D : Nat) (x : Int) : Prop := x = -1 ∨ ∃ F, fV F ∧ x = (enc F : Int) ∧ Vn w E g m (j : Int) D F
def tI (w : Nat → Int) (E : List Int) (g : Int) (m dp D : Nat) (T : Nat → Int) : Prop := ∀ j, j < 4 → tS w E g m j D (T (4 * dp + j))
set_option maxRecDepth 100000 in
set_option maxHeartbeats 4000000 in
theorem cc_vage {d : Nat} {h : AbH} {K : Option AbV → AbH → Prop} {v ql qb tr st : Nat} {E0 g n : Int} {E : List Int} {w : Nat → Int} {LW : Nat → Option Nat} {BZ : Nat → Int} {D dp m : Nat} {T S : Nat → Int} (hw : wV w) (ho : hpO h v = some (5, wyF ql qb tr st E0 g n)) (hl : hpR h ql = some (0, 400, LW)) (hp : PW w h 16 16 LW BZ) (hD : D + 1 < 100) (hdp : dp < 3) (hT : tI w E g m dp D T) (kk : ∀ T', (∀ j, j < 4 * dp → T' j = T j) → tI w E g m dp (D + 1) T' → K none (wyH h tr st T' S)) : Vm (d + 4) m_X6_ageTried [vR (some v), vI (dp : Int), vI ((D + 1 : Nat) : Int)] (wyH h tr st T S) K := by
  refine Vm.intro rfl (Nat.le_of_ble_eq_true rfl) (fun _ => B_X6_ageTried_0 ?_)
  refine lp_up (P := fun i => ∀ T1, (∀ j, j < 4 * dp → T1 j = T j) → (∀ j, j < 4 → i ≤ j → tS w E g m j D (T1 (4 * dp + j))) → (∀ j, j < 4 → j < i → tS w E g m j (D + 1) (T1 (4 * dp + j))) → Vx (d + 4) m_X6_ageTried 0 0 2 [some (vR (some v)), some (vI (dp : Int)), some (vI ((D + 1 : Nat) : Int)), some (vI (i : Int)), none] [] (wyH h tr st T1 S) K) (n := 4) ?_ ?_ 0 (by omega) T (fun _ _ => rfl) (fun j hj _ => hT j hj) (fun j _ hj => absurd hj (by omega))
  · intro T1 a1 a2 a3
    exact B_X6_ageTried_2 ⟨fun _ => kk T1 a1 (fun j hj => a3 j hj hj), fun z => absurd (by decide) z⟩
  · intro i hi ih T1 a1 a2 a3
    refine B_X6_ageTried_2 ⟨fun z => absurd z (by omega), fun _ => ⟨i3 (by omega) (by omega), i3 (by omega) (by omega), ?_⟩⟩
    have ho1 : hpO (wyH h tr st T1 S) v = some (5, wyF ql qb tr st E0 g n) := ho
    have hl1 : hpR (wyH h tr st T1 S) ql = some (0, 400, LW) := hl
    have hp1 : PW w (wyH h tr st T1 S) 16 16 LW BZ := hp
    have ei : ((dp : Int) * 4 + (i : Int)).toNat = 4 * dp + i := by omega
    refine gR_i ho1 rfl (lJ_i wy_tr (by omega) (by omega) ?_)
    rw [ei]
    have hi2 := a2 i hi (Nat.le_refl _)
    refine ⟨fun q => ⟨i3 (by omega) (by omega), ih T1 a1 (fun j h1 h2 => a2 j h1 (by omega)) (fun j h1 h2 => ?_)⟩, fun q => ?_⟩
    · by_cases e : j = i
      · rw [e]; exact Or.inl q
      · exact a3 j h1 (by omega)
    · obtain ⟨F, f1, f2, f3⟩ := hi2.resolve_left q
      refine gR_i ho1 rfl (gR_i ho1 rfl (lJ_i wy_tr (by omega) (by omega) ?_))
      rw [ei, f2]
      refine cv_i ho1 ?_
      refine cc_vchanged hw ho1 hl1 hp1 hD hi f1 ?_
      simp only [kI_some, kL_some, kR_some, kV_none, ne_eq, not_true_eq_false, not_false_eq_true, true_implies, false_implies, implies_true, true_and, and_true, ab_z01, or_true, true_or, reduceCtorEq, Option.some.injEq, Int.reduceEq, Int.reduceNe, Int.reduceLT, Int.reduceLE, Int.reduceNeg, Int.reduceAdd, Int.reduceSub, Int.reduceMul, Nat.reduceEqDiff, Nat.reduceAdd, Nat.reduceMul, Int.reduceToNat, ↓reduceIte]
      refine sJ_i wy_tr (by omega) (by omega) ?_
      rw [ei, wy_J]
      refine ⟨i3 (by omega) (by omega), ih _ (fun j hj => by rw [vu_ne (by omega)]; exact a1 j hj) (fun j h1 h2 => by rw [vu_ne (by omega)]; exact a2 j h1 (by omega)) (fun j h1 h2 => ?_)⟩
      by_cases e : j = i
      · rw [e, vu_same]
        refine Or.inr ⟨_, dev_V hw.L f1, rfl, ?_⟩
        have := f3.age hw (show D ≤ D + 1 by omega) (by omega)
        rw [show ((D + 1 : Nat) : Int) - 1 = (D : Int) by omega]
        exact this
      · rw [vu_ne (by omega)]
        exact a3 j h1 (by omega)
