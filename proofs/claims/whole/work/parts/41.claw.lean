/-! a law on a form, in the class -/
def lwF (w : Nat → Int) (k : Nat) : List AbV := [vI (lw w k 0), vI (lw w k 1), vI (lw w k 2), vI (lw w k 3), vI (lw w k 4), vI (lw w k 5)]
theorem apN_fV {w : Nat → Int} {k : Nat} {l : List Int} (hv : lawV (lw w k 0) (lw w k 1) (lw w k 2) (lw w k 3) (lw w k 4) (lw w k 5)) (hl : fV l) {n : Nat} (hn : n ≤ l.length) : fV (apN (cgL w k l) (lw w k 3) l n) ∧ (apN (cgL w k l) (lw w k 3) l n).length ≤ n := by
  have h1 := apN_len (cgL w k l) (lw w k 3) l n
  have h10 := hl.1
  exact ⟨⟨by omega, apN_in _ _ _ hv.2.2.2.1 hl.2 n hn⟩, h1⟩
set_option maxRecDepth 100000 in
set_option maxHeartbeats 4000000 in
theorem cc_applied {d : Nat} {h : AbH} {K : Option AbV → AbH → Prop} {w : Nat → Int} {k b : Nat} {l : List Int} (hv : lawV (lw w k 0) (lw w k 1) (lw w k 2) (lw w k 3) (lw w k 4) (lw w k 5)) (ho : hpO h b = some (0, lwF w k)) (hl : fV l) (kk : K (some (vL (enc (ap w k l) : Int))) h) : Vm (d + 2) m_X1_applied [vR (some b), vL (enc l : Int)] h K := by
  have h10 := hl.1
  obtain ⟨v1, v2, v3, v4, v5, v6, v7, v8⟩ := id hv
  obtain ⟨as, has⟩ : ∃ as : Int, as = if lw w k 4 = 1 then 1 else -1 := ⟨_, rfl⟩
  have key : Vx (d + 2) m_X1_applied 0 0 23 [some (vR (some b)), some (vL (enc l : Int)), none, some (vL 0), none, some (vI 0), some (vI as), some (vI 0), none, none] [] h K := by
    refine lp_up (P := fun i => Vx (d + 2) m_X1_applied 0 0 23 [some (vR (some b)), some (vL (enc l : Int)), none, some (vL (enc (apN (cgL w k l) (lw w k 3) l i) : Int)), none, some (vI ((apN (cgL w k l) (lw w k 3) l i).length : Int)), some (vI as), some (vI (i : Int)), none, none] [] h K) (n := l.length) ?_ ?_ 0 (by omega)
    · refine B_X1_applied_23 ⟨fun _ => kk, fun _ => ?_⟩
      refine cc_soundAt hl ?_
      simp only [kI_some, kL_some, kR_some, kV_none, ne_eq, not_true_eq_false, not_false_eq_true, true_implies, false_implies, implies_true, true_and, and_true, ab_z01, or_true, true_or, reduceCtorEq, Option.some.injEq, Int.reduceEq, Int.reduceNe, Int.reduceLT, Int.reduceLE, Int.reduceNeg, Int.reduceAdd, Int.reduceSub, Int.reduceMul, Nat.reduceEqDiff, Nat.reduceAdd, Nat.reduceMul, Int.reduceToNat, ↓reduceIte]
      unfold sAt
      rw [if_neg (by omega)]
      exact ⟨fun c => absurd rfl c, fun _ => kk⟩
    · intro i hi ih
      obtain ⟨q1, q2⟩ := apN_fV hv hl (n := i) (by omega)
      have hli := hl.2 i hi
      -- behind the test
      have F86 : Vx (d + 2) m_X1_applied 0 0 86 [some (vR (some b)), some (vL (enc l : Int)), none, some (vL (enc (apN (cgL w k l) (lw w k 3) l i) : Int)), none, some (vI ((apN (cgL w k l) (lw w k 3) l i).length : Int)), some (vI as), some (vI (i : Int)), some (vI (l.getD i 0)), some (vI (b2i (cgL w k l i)))] [] h K := by
        have hs : apN (cgL w k l) (lw w k 3) l (i + 1) = apN (cgL w k l) (lw w k 3) l i ++ (if cgL w k l i = true then (if lw w k 3 = -1 then [] else [lw w k 3]) else [l.getD i 0]) := rfl
        rw [hs] at ih
        obtain ⟨X, hX⟩ : ∃ X, X = apN (cgL w k l) (lw w k 3) l i := ⟨_, rfl⟩
        rw [← hX] at ih q1 q2 ⊢
        refine B_X1_applied_86 ?_
        cases hc : cgL w k l i with
        | false =>
          rw [hc, if_neg (by decide)] at ih
          refine ⟨fun _ => ⟨fun _ => ?_, fun z => absurd rfl z⟩, fun z => absurd rfl z⟩
          refine cc_longer q1 (by omega) hli ?_
          simp only [kI_some, kL_some, kR_some, kV_none, ne_eq, not_true_eq_false, not_false_eq_true, true_implies, false_implies, implies_true, true_and, and_true, ab_z01, or_true, true_or, reduceCtorEq, Option.some.injEq, Int.reduceEq, Int.reduceNe, Int.reduceLT, Int.reduceLE, Int.reduceNeg, Int.reduceAdd, Int.reduceSub, Int.reduceMul, Nat.reduceEqDiff, Nat.reduceAdd, Nat.reduceMul, Int.reduceToNat, ↓reduceIte]
          refine ⟨i3 (by omega) (by omega), i3 (by omega) (by omega), ?_⟩
          rw [List.length_append] at ih
          exact ih
        | true =>
          rw [hc, if_pos rfl] at ih
          refine ⟨fun z => absurd z (by decide), fun _ => ?_⟩
          refine gI_i ho rfl ?_
          refine ⟨fun c2 => ⟨fun z => absurd z (by decide), fun _ => ?_⟩, fun c2 => ?_⟩
          · rw [if_neg c2] at ih
            refine gI_i ho rfl ?_
            refine cc_longer q1 (by omega) (by omega) ?_
            simp only [kI_some, kL_some, kR_some, kV_none, ne_eq, not_true_eq_false, not_false_eq_true, true_implies, false_implies, implies_true, true_and, and_true, ab_z01, or_true, true_or, reduceCtorEq, Option.some.injEq, Int.reduceEq, Int.reduceNe, Int.reduceLT, Int.reduceLE, Int.reduceNeg, Int.reduceAdd, Int.reduceSub, Int.reduceMul, Nat.reduceEqDiff, Nat.reduceAdd, Nat.reduceMul, Int.reduceToNat, ↓reduceIte]
            refine ⟨i3 (by omega) (by omega), i3 (by omega) (by omega), ?_⟩
            rw [List.length_append] at ih
            exact ih
          · rw [if_pos (Classical.byContradiction c2), List.append_nil] at ih
            exact ⟨i3 (by omega) (by omega), ih⟩
      have yes : (l.getD i 0 = lw w k 2 ∧ (lw w k 4 = 0 ∨ (lw w k 4 = 1 ∧ i + 1 < l.length ∧ l.getD (i + 1) 0 = lw w k 5) ∨ (lw w k 4 = 2 ∧ 0 < i ∧ l.getD (i - 1) 0 = lw w k 5))) → b2i (cgL w k l i) = 1 := fun q => b2i_t (decide_eq_true q)
      have no' : ¬ (l.getD i 0 = lw w k 2 ∧ (lw w k 4 = 0 ∨ (lw w k 4 = 1 ∧ i + 1 < l.length ∧ l.getD (i + 1) 0 = lw w k 5) ∨ (lw w k 4 = 2 ∧ 0 < i ∧ l.getD (i - 1) 0 = lw w k 5))) → b2i (cgL w k l i) = 0 := fun q => b2i_f (by unfold cgL; rw [decide_eq_false q]; decide)
      refine B_X1_applied_23 ⟨fun c => absurd c (by omega), fun _ => ?_⟩
      refine cc_soundAt hl ?_
      have e1 : sAt l (i : Int) = l.getD i 0 := by unfold sAt; rw [if_pos (by omega), Int.toNat_natCast]
      simp only [kI_some, kL_some, kR_some, kV_none, ne_eq, not_true_eq_false, not_false_eq_true, true_implies, false_implies, implies_true, true_and, and_true, ab_z01, or_true, true_or, reduceCtorEq, Option.some.injEq, Int.reduceEq, Int.reduceNe, Int.reduceLT, Int.reduceLE, Int.reduceNeg, Int.reduceAdd, Int.reduceSub, Int.reduceMul, Nat.reduceEqDiff, Nat.reduceAdd, Nat.reduceMul, Int.reduceToNat, ↓reduceIte]
      rw [e1]
      refine ⟨fun _ => ?_, fun c => absurd (by omega) c⟩
      refine gI_i ho rfl ?_
      refine ⟨fun c => ?_, fun c => ?_⟩
      · rw [no' (fun q => c q.1)] at F86
        exact F86
      have c := Classical.byContradiction c
      refine gI_i ho rfl ?_
      refine ⟨fun c2 => ?_, fun c2 => ?_⟩
      · rw [yes ⟨c, Or.inl c2⟩] at F86
        exact F86
      refine ⟨i3 (by rw [has]; split <;> omega) (by rw [has]; split <;> omega), ?_⟩
      refine cc_soundAt hl ?_
      simp only [kI_some, kL_some, kR_some, kV_none, ne_eq, not_true_eq_false, not_false_eq_true, true_implies, false_implies, implies_true, true_and, and_true, ab_z01, or_true, true_or, reduceCtorEq, Option.some.injEq, Int.reduceEq, Int.reduceNe, Int.reduceLT, Int.reduceLE, Int.reduceNeg, Int.reduceAdd, Int.reduceSub, Int.reduceMul, Nat.reduceEqDiff, Nat.reduceAdd, Nat.reduceMul, Int.reduceToNat, ↓reduceIte]
      refine gI_i ho rfl ?_
      have e2 : sAt l ((i : Int) + as) = lw w k 5 ↔ ((lw w k 4 = 1 ∧ i + 1 < l.length ∧ l.getD (i + 1) 0 = lw w k 5) ∨ (lw w k 4 = 2 ∧ 0 < i ∧ l.getD (i - 1) 0 = lw w k 5)) := by
        have z5 := v8 c2
        unfold sAt
        by_cases c4 : lw w k 4 = 1
        · rw [has, if_pos c4]
          by_cases c5 : i + 1 < l.length
          · rw [if_pos (by omega), show ((i : Int) + 1).toNat = i + 1 by omega]
            exact ⟨fun q => Or.inl ⟨c4, c5, q⟩, fun q => by rcases q with q | q; exact q.2.2; omega⟩
          · rw [if_neg (by omega)]
            exact ⟨fun q => by omega, fun q => by omega⟩
        · rw [has, if_neg c4]
          by_cases c5 : 0 < i
          · rw [if_pos (by omega), show ((i : Int) + -1).toNat = i - 1 by omega]
            exact ⟨fun q => Or.inr ⟨by omega, c5, q⟩, fun q => by rcases q with q | q; omega; exact q.2.2⟩
          · rw [if_neg (by omega)]
            exact ⟨fun q => by omega, fun q => by omega⟩
      refine ⟨fun c3 => ?_, fun c3 => ?_⟩
      · rw [no' (fun q => c3 (e2.mpr (by rcases q.2 with q | q; exact absurd q c2; exact q)))] at F86
        exact F86
      · rw [yes ⟨c, Or.inr (e2.mp (Classical.byContradiction c3))⟩] at F86
        exact F86
  refine Vm.intro rfl (Nat.le_of_ble_eq_true rfl) (fun _ => B_X1_applied_0 ?_)
  refine gI_i ho rfl ?_
  refine ⟨fun c => ?_, fun c => ?_⟩
  · rw [has, if_neg c] at key
    exact key
  · rw [has, if_pos (Classical.byContradiction c)] at key
    exact key
theorem apN_del {c : Nat → Bool} {l : List Int} : ∀ n, (apN c (-1) l n).length + cntN c n = n
  | 0 => rfl
  | n + 1 => by
    have := apN_del (c := c) (l := l) n
    show (apN c (-1) l n ++ (if c n = true then (if (-1 : Int) = -1 then [] else [-1]) else [l.getD n 0])).length + (cntN c n + (if c n = true then 1 else 0)) = n + 1
    rw [List.length_append]
    by_cases q : c n = true
    · rw [if_pos q, if_pos q, if_pos rfl]
      show _ + 0 + _ = _
      omega
    · rw [if_neg q, if_neg q]
      show _ + 1 + _ = _
      omega
theorem apN_rep {c : Nat → Bool} {y : Int} (hy : y ≠ -1) {l : List Int} : ∀ n, (apN c y l n).length = n ∧ ∀ i, i < n → (apN c y l n).getD i 0 = if c i = true then y else l.getD i 0
  | 0 => ⟨rfl, fun i hi => absurd hi (by omega)⟩
  | n + 1 => by
    obtain ⟨h1, h2⟩ := apN_rep (c := c) hy (l := l) n
    have hs : apN c y l (n + 1) = apN c y l n ++ (if c n = true then (if y = -1 then [] else [y]) else [l.getD n 0]) := rfl
    have hx : (if c n = true then (if y = -1 then [] else [y]) else [l.getD n 0]) = [if c n = true then y else l.getD n 0] := by
      rw [if_neg hy]
      split <;> rfl
    rw [hs, hx]
    refine ⟨by rw [List.length_append, h1]; rfl, fun i hi => ?_⟩
    rw [getD_app, h1]
    by_cases q : i < n
    · rw [if_pos q]
      exact h2 i q
    · rw [if_neg q, show i = n by omega, Nat.sub_self]
      rfl
theorem cntN_pos {c : Nat → Bool} : ∀ n i, i < n → c i = true → 1 ≤ cntN c n
  | 0, i, h, _ => absurd h (by omega)
  | n + 1, i, h, hc => by
    unfold cntN
    by_cases q : i = n
    · rw [← q, if_pos hc]; omega
    · have := cntN_pos n i (by omega) hc
      omega
theorem ap_ne {w : Nat → Int} {k : Nat} {l : List Int} (hv : lawV (lw w k 0) (lw w k 1) (lw w k 2) (lw w k 3) (lw w k 4) (lw w k 5)) : ap w k l ≠ l ↔ ht w k l = true := by
  have hxy := hv.2.2.2.2.1
  unfold ht
  rw [anyN_iff]
  by_cases hy : lw w k 3 = -1
  · have hd := apN_del (c := cgL w k l) (l := l) l.length
    have e : ap w k l = apN (cgL w k l) (-1) l l.length := by unfold ap; rw [hy]
    rw [e]
    constructor
    · intro h
      apply Classical.byContradiction
      intro hn
      have h0 : cntN (cgL w k l) l.length = 0 := cntN_0 _ (fun i hi q => hn ⟨i, hi, q⟩)
      apply h
      have : ∀ n, n ≤ l.length → apN (cgL w k l) (-1) l n = l.take n := by
        intro n
        induction n with
        | zero => intro _; rfl
        | succ n ih =>
          intro hn'
          have hs : apN (cgL w k l) (-1) l (n + 1) = apN (cgL w k l) (-1) l n ++ (if cgL w k l n = true then (if (-1 : Int) = -1 then [] else [-1]) else [l.getD n 0]) := rfl
          rw [hs, ih (by omega), if_neg (fun q => hn ⟨n, by omega, q⟩), List.take_succ]
          rw [List.getElem?_eq_getElem (by omega)]
          simp [List.getD, List.getElem?_eq_getElem (show n < l.length by omega)]
      rw [this _ (Nat.le_refl _), List.take_length]
    · rintro ⟨i, hi, q⟩ h
      have := cntN_pos l.length i hi q
      rw [h] at hd
      omega
  · obtain ⟨r1, r2⟩ := apN_rep (c := cgL w k l) hy (l := l) l.length
    have e : ap w k l = apN (cgL w k l) (lw w k 3) l l.length := rfl
    rw [e]
    constructor
    · intro h
      apply Classical.byContradiction
      intro hn
      apply h
      refine List.ext_getElem r1 (fun i h1 h2 => ?_)
      have z := r2 i h2
      rw [if_neg (fun q => hn ⟨i, h2, q⟩)] at z
      simp only [List.getD, List.getElem?_eq_getElem h1, List.getElem?_eq_getElem h2, Option.getD_some] at z
      exact z
    · rintro ⟨i, hi, q⟩ h
      have z := r2 i hi
      rw [h, if_pos q] at z
      have : l.getD i 0 = lw w k 2 := (of_decide_eq_true q).1
      rw [this] at z
      exact hxy z
set_option maxRecDepth 100000 in
set_option maxHeartbeats 4000000 in
theorem cc_affects {d : Nat} {h : AbH} {K : Option AbV → AbH → Prop} {w : Nat → Int} {k b : Nat} {l : List Int} (hv : lawV (lw w k 0) (lw w k 1) (lw w k 2) (lw w k 3) (lw w k 4) (lw w k 5)) (ho : hpO h b = some (0, lwF w k)) (hl : fV l) (kk : K (some (vI (b2i (ht w k l)))) h) : Vm (d + 3) m_X1_affects [vR (some b), vL (enc l : Int)] h K := by
  refine Vm.intro rfl (Nat.le_of_ble_eq_true rfl) (fun _ => B_X1_affects_0 ?_)
  refine cv_i ho ?_
  refine cc_applied hv ho hl ?_
  simp only [kI_some, kL_some, kR_some, kV_none, ne_eq, not_true_eq_false, not_false_eq_true, true_implies, false_implies, implies_true, true_and, and_true, ab_z01, or_true, true_or, reduceCtorEq, Option.some.injEq, Int.reduceEq, Int.reduceNe, Int.reduceLT, Int.reduceLE, Int.reduceNeg, Int.reduceAdd, Int.reduceSub, Int.reduceMul, Nat.reduceEqDiff, Nat.reduceAdd, Nat.reduceMul, Int.reduceToNat, ↓reduceIte]
  have hap : fV (ap w k l) := (apN_fV hv hl (Nat.le_refl _)).1
  refine ⟨fun c => ?_, fun c => ?_⟩
  · have e : ap w k l = l := enc_inj _ _ hap hl (by omega)
    rw [b2i_f (fun q => (ap_ne hv).mpr q e)] at kk
    exact kk
  · rw [b2i_t ((ap_ne hv).mp (fun e => c (by rw [e])))] at kk
    exact kk
