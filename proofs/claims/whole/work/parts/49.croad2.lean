def dg (w : Nat → Int) : Prop := ∀ t : Nat, t < 4 → w (98 + 2 * (4 * t + t)) = 0
def VC (P : Nat → Prop) (h : AbH) (a : Nat) (w : Nat → Int) (v ql qb tr st : Nat) (E : List Int) (g : Int) (n : Nat) (LW : Nat → Option Nat) (BZ : Nat → Int) : Prop := CW P h a w ∧ dg w ∧ hpO h v = some (5, wyF ql qb tr st (enc E : Int) g (n : Int)) ∧ hpR h ql = some (0, 400, LW) ∧ hpZ h qb = some (100, BZ) ∧ PW w h 16 16 LW BZ ∧ P tr ∧ P st ∧ fV E ∧ tg g ∧ n ≤ 3
def LDs (h : AbH) (a : Nat) (w : Nat → Int) (v tr st : Nat) (E : List Int) (g : Int) (n m : Nat) : Prop := ∀ (d dp D t : Nat) (T S : Nat → Int) (f : List Int) (K : Option AbV → AbH → Prop), dp + m = n → D < 100 → begB w D = true → t < 4 → fV f →
  (∀ T' S' l, l.length = m → okP w D l → arrM w E g (t : Int) D f l → (∀ l', l'.length = m → lexL l' l → okP w D l' → ¬ arrM w E g (t : Int) D f l') → (∀ j, j < m → S' (dp + j) = ((l.getD j 0 : Nat) : Int)) → (∀ j, j < dp → S' j = S j) → K (some (vI 1)) (wyH h tr st T' S')) →
  (∀ T' S', (∀ j, j < dp → S' j = S j) → (∀ j, j < 4 * dp → T' j = T j) → Vn w E g m (t : Int) D f → K (some (vI 0)) (wyH h tr st T' S')) →
  Vm (d + 2 * m + 4) m_X6_leads [vR (some v), vR (some a), vI (dp : Int), vI (D : Int), vI (t : Int), vL (enc f : Int)] (wyH h tr st T S) K
def BRs (h : AbH) (a : Nat) (w : Nat → Int) (v tr st : Nat) (E : List Int) (g : Int) (n m : Nat) : Prop := ∀ (d dp D t : Nat) (T S : Nat → Int) (f : List Int) (K : Option AbV → AbH → Prop), dp + m + 1 = n → D < 100 → begB w D = true → t < 4 → fV f → tI w E g m dp D T →
  (∀ T' S' (nx : Nat) cs, nx < 4 → cs.length = m → wMet w (t : Int) (nx : Int) (D : Int) → okP w D cs → arrM w E g (nx : Int) D f cs → (∀ nx' : Nat, nx' < nx → wMet w (t : Int) (nx' : Int) (D : Int) → Vn w E g m (nx' : Int) D f) → (∀ cs', cs'.length = m → lexL cs' cs → okP w D cs' → ¬ arrM w E g (nx : Int) D f cs') → S' dp = ((4 * D + nx : Nat) : Int) → (∀ j, j < m → S' (dp + 1 + j) = ((cs.getD j 0 : Nat) : Int)) → (∀ j, j < dp → S' j = S j) → K (some (vI 1)) (wyH h tr st T' S')) →
  (∀ T' S', (∀ j, j < dp → S' j = S j) → (∀ j, j < 4 * dp → T' j = T j) → tI w E g m dp D T' → (∀ nx : Nat, nx < 4 → wMet w (t : Int) (nx : Int) (D : Int) → Vn w E g m (nx : Int) D f) → K (some (vI 0)) (wyH h tr st T' S')) →
  Vm (d + 2 * m + 5) m_X6_branches [vR (some v), vR (some a), vI (dp : Int), vI (D : Int), vI (t : Int), vL (enc f : Int)] (wyH h tr st T S) K
theorem lex_nil {l : List Nat} : ¬ lexL l [] := by
  cases l with
  | nil => exact fun z => z
  | cons a l => exact fun z => z
theorem arr_mk {w : Nat → Int} {E : List Int} {g t : Int} {D D' nx : Nat} {f : List Int} {cs : List Nat} (hn : nx < 4) : arrM w E g t D f ((4 * D' + nx) :: cs) ↔ wMet w t (nx : Int) (D' : Int) ∧ arrM w E g (nx : Int) D' (dev w t (D : Int) (D' : Int) f) cs := by
  show (wMet w t (((4 * D' + nx) % 4 : Nat) : Int) (((4 * D' + nx) / 4 : Nat) : Int) ∧ arrM w E g (((4 * D' + nx) % 4 : Nat) : Int) ((4 * D' + nx) / 4) (dev w t (D : Int) (((4 * D' + nx) / 4 : Nat) : Int) f) cs) ↔ _
  rw [show (4 * D' + nx) % 4 = nx by omega, show (4 * D' + nx) / 4 = D' by omega]
-- whether two tongues meet
set_option maxRecDepth 100000 in
set_option maxHeartbeats 4000000 in
theorem cc_vmeet {d : Nat} {h : AbH} {P : Nat → Prop} {a t nx D : Nat} {w : Nat → Int} {Q : Int → AbH → Prop} (cw : CW P h a w) (hg : dg w) (ht : t < 4) (hn : nx < 4) (k1 : wMet w (t : Int) (nx : Int) (D : Int) → Q 1 h) (k0 : ¬ wMet w (t : Int) (nx : Int) (D : Int) → Q 0 h) : Vm (d + 3) m_X9_pairOf [vI (t : Int), vI (nx : Int)] h (kI (fun n9 h8 => wpCV h8 (some a) 7 (fun b24 => Vm (d + 3) m_X8_isMeeting [vR (some b24), vI n9, vI (D : Int)] h8 (kI Q)))) := by
  obtain ⟨hw, al, ao, af, ae, g1, g2, ff, fl, cx, -⟩ := cw
  refine cc_pairOf (fun q => ?_) (fun q => ?_) <;> simp only [kI_some, kL_some, kR_some, kV_none, ne_eq, not_true_eq_false, not_false_eq_true, true_implies, false_implies, implies_true, true_and, and_true, ab_z01, or_true, true_or, reduceCtorEq, Option.some.injEq, Int.reduceEq, Int.reduceNe, Int.reduceLT, Int.reduceLE, Int.reduceNeg, Int.reduceAdd, Int.reduceSub, Int.reduceMul, Nat.reduceEqDiff, Nat.reduceAdd, Nat.reduceMul, Int.reduceToNat, ↓reduceIte]
  · refine cv_i cx.1 ?_
    obtain ⟨u, hu⟩ : ∃ u, u = w (98 + 2 * (4 * t + nx)) := ⟨_, rfl⟩
    have hm := (hw.met (98 + 2 * (4 * t + nx)) (by omega) (by omega)).1
    have e1 : fO w ((t : Int) * 4 + (nx : Int)) = u - 1 := by unfold fO; rw [if_pos (by omega), show ((t : Int) * 4 + (nx : Int)).toNat = 4 * t + nx by omega, hu]
    have e2 : lO w ((t : Int) * 4 + (nx : Int)) = if u = 0 then -1 else w (98 + 2 * (4 * t + nx) + 1) := by unfold lO; rw [if_pos (by omega), show ((t : Int) * 4 + (nx : Int)).toNat = 4 * t + nx by omega, hu]
    have e3 : wMet w (t : Int) (nx : Int) (D : Int) ↔ 0 < u ∧ u - 1 ≤ (D : Int) ∧ (D : Int) ≤ w (98 + 2 * (4 * t + nx) + 1) := by unfold wMet; rw [Int.toNat_natCast, Int.toNat_natCast, hu]
    rw [← hu] at hm
    refine cc_isMeeting cx (fun z => ?_) (fun z => ?_) <;> simp only [kI_some, kL_some, kR_some, kV_none, ne_eq, not_true_eq_false, not_false_eq_true, true_implies, false_implies, implies_true, true_and, and_true, ab_z01, or_true, true_or, reduceCtorEq, Option.some.injEq, Int.reduceEq, Int.reduceNe, Int.reduceLT, Int.reduceLE, Int.reduceNeg, Int.reduceAdd, Int.reduceSub, Int.reduceMul, Nat.reduceEqDiff, Nat.reduceAdd, Nat.reduceMul, Int.reduceToNat, ↓reduceIte]
    · rw [e1, e2] at z
      rw [if_neg (by omega)] at z
      exact k1 (e3.mpr ⟨by omega, by omega, by omega⟩)
    · refine k0 (fun y => z ?_)
      have y := e3.mp y
      rw [e1, e2, if_neg (by omega)]
      exact ⟨by omega, by omega, by omega⟩
  · refine cv_i cx.1 ?_
    have e : t = nx := by
      apply Classical.byContradiction
      intro z
      exact q ⟨⟨by omega, by omega⟩, ⟨by omega, by omega⟩, by omega⟩
    refine cc_isMeeting cx (fun z => ?_) (fun _ => ?_) <;> simp only [kI_some, kL_some, kR_some, kV_none, ne_eq, not_true_eq_false, not_false_eq_true, true_implies, false_implies, implies_true, true_and, and_true, ab_z01, or_true, true_or, reduceCtorEq, Option.some.injEq, Int.reduceEq, Int.reduceNe, Int.reduceLT, Int.reduceLE, Int.reduceNeg, Int.reduceAdd, Int.reduceSub, Int.reduceMul, Nat.reduceEqDiff, Nat.reduceAdd, Nat.reduceMul, Int.reduceToNat, ↓reduceIte]
    · exact absurd (show fO w (-1) = -1 by unfold fO; rw [if_neg (by omega)]) z.1
    · refine k0 (fun y => ?_)
      have := hg t ht
      have h1 := y.1
      rw [Int.toNat_natCast, Int.toNat_natCast, ← e, this] at h1
      exact absurd h1 (by decide)
set_option maxRecDepth 100000 in
set_option maxHeartbeats 4000000 in
theorem cc_vlead0 {P : Nat → Prop} {h : AbH} {a : Nat} {w : Nat → Int} {v ql qb tr st : Nat} {E : List Int} {g : Int} {n : Nat} {LW : Nat → Option Nat} {BZ : Nat → Int} (c : VC P h a w v ql qb tr st E g n LW BZ) : LDs h a w v tr st E g n 0 := by
  obtain ⟨cw, hg, ho, hl, hb, hp, p1, p2, hE, hgt, hn⟩ := c
  intro d dp D t T S f K hdp hD hbe ht hf kT kF
  have hw := cw.1
  have ho1 : hpO (wyH h tr st T S) v = some (5, wyF ql qb tr st (enc E : Int) g (n : Int)) := ho
  refine Vm.intro rfl (Nat.le_of_ble_eq_true rfl) (fun _ => B_X6_leads_0 ?_)
  refine gI_i ho1 rfl ?_
  rw [if_neg (show ¬ (3 : Int) < (n : Int) by omega)]
  refine ⟨i3 (by omega) (by omega), cc_within (fun q => absurd q (by omega)) (fun _ => ?_)⟩
  simp only [kI_some, kL_some, kR_some, kV_none, ne_eq, not_true_eq_false, not_false_eq_true, true_implies, false_implies, implies_true, true_and, and_true, ab_z01, or_true, true_or, reduceCtorEq, Option.some.injEq, Int.reduceEq, Int.reduceNe, Int.reduceLT, Int.reduceLE, Int.reduceNeg, Int.reduceAdd, Int.reduceSub, Int.reduceMul, Nat.reduceEqDiff, Nat.reduceAdd, Nat.reduceMul, Int.reduceToNat, ↓reduceIte]
  refine gI_i ho1 rfl ⟨fun q => ?_, fun q => ?_⟩
  · refine kF T S (fun _ _ => rfl) (fun _ _ => rfl) (fun l hl2 _ z => ?_)
    rw [List.eq_nil_of_length_eq_zero hl2] at z
    exact q z.1
  · have q := Classical.byContradiction q
    obtain ⟨-, al, ao, af, ae, g1, g2, ff, fl, cx, -⟩ := cw.mv (xt_wy (T := T) (S := S) p1 p2)
    refine cv_i cx.1 (cc_developed hw cx hf ?_)
    simp only [kI_some, kL_some, kR_some, kV_none, ne_eq, not_true_eq_false, not_false_eq_true, true_implies, false_implies, implies_true, true_and, and_true, ab_z01, or_true, true_or, reduceCtorEq, Option.some.injEq, Int.reduceEq, Int.reduceNe, Int.reduceLT, Int.reduceLE, Int.reduceNeg, Int.reduceAdd, Int.reduceSub, Int.reduceMul, Nat.reduceEqDiff, Nat.reduceAdd, Nat.reduceMul, Int.reduceToNat, ↓reduceIte]
    refine gL_i ho1 rfl ⟨fun z => ?_, fun z => ?_⟩
    · refine kF T S (fun _ _ => rfl) (fun _ _ => rfl) (fun l hl2 _ y => ?_)
      rw [List.eq_nil_of_length_eq_zero hl2] at y
      exact z (by rw [y.2])
    · have e : dev w (t : Int) (D : Int) 99 f = E := enc_inj _ _ (dev_V hw.L hf) hE (by have := Classical.byContradiction z; omega)
      exact kT T S [] rfl True.intro ⟨q, e⟩ (fun l' _ z _ => absurd z lex_nil) (fun j hj => absurd hj (by omega)) (fun _ _ => rfl)
set_option maxRecDepth 100000 in
set_option maxHeartbeats 4000000 in
theorem cc_vbranch {P : Nat → Prop} {h : AbH} {a : Nat} {w : Nat → Int} {v ql qb tr st : Nat} {E : List Int} {g : Int} {n m : Nat} {LW : Nat → Option Nat} {BZ : Nat → Int} (c : VC P h a w v ql qb tr st E g n LW BZ) (hL : LDs h a w v tr st E g n m) : BRs h a w v tr st E g n m := by
  obtain ⟨cw, hg, ho, hl, hb, hp, p1, p2, hE, hgt, hn⟩ := c
  intro d dp D t T S f K hdp hD hbe ht hf hT kT kF
  have hw := cw.1
  refine Vm.intro rfl (Nat.le_of_ble_eq_true rfl) (fun _ => B_X6_branches_0 ?_)
  refine cc_within (fun _ => ?_) (fun q => absurd (by omega) q)
  simp only [kI_some, kL_some, kR_some, kV_none, ne_eq, not_true_eq_false, not_false_eq_true, true_implies, false_implies, implies_true, true_and, and_true, ab_z01, or_true, true_or, reduceCtorEq, Option.some.injEq, Int.reduceEq, Int.reduceNe, Int.reduceLT, Int.reduceLE, Int.reduceNeg, Int.reduceAdd, Int.reduceSub, Int.reduceMul, Nat.reduceEqDiff, Nat.reduceAdd, Nat.reduceMul, Int.reduceToNat, ↓reduceIte]
  refine lp_up (P := fun i => ∀ T1 S1, (∀ j, j < dp → S1 j = S j) → (∀ j, j < 4 * dp → T1 j = T j) → tI w E g m dp D T1 → (∀ nx : Nat, nx < 4 → nx < i → wMet w (t : Int) (nx : Int) (D : Int) → Vn w E g m (nx : Int) D f) → Vx (d + 2 * m + 5) m_X6_branches 0 0 14 [some (vR (some v)), some (vR (some a)), some (vI (dp : Int)), some (vI (D : Int)), some (vI (t : Int)), some (vL (enc f : Int)), none, some (vI (i : Int)), none] [] (wyH h tr st T1 S1) K) (n := 4) ?_ ?_ 0 (by omega) T S (fun _ _ => rfl) (fun _ _ => rfl) hT (fun nx _ hx => absurd hx (by omega))
  · intro T1 S1 a1 a2 a3 a4
    exact B_X6_branches_14 ⟨fun _ => kF T1 S1 a1 a2 a3 (fun nx hx => a4 nx hx hx), fun z => absurd (by decide) z⟩
  · intro i hi ih T1 S1 a1 a2 a3 a4
    have ho1 : ∀ T1 S1, hpO (wyH h tr st T1 S1) v = some (5, wyF ql qb tr st (enc E : Int) g (n : Int)) := fun _ _ => ho
    have ei : ((dp : Int) * 4 + (i : Int)).toNat = 4 * dp + i := by omega
    -- nothing new at i
    have skip : (wMet w (t : Int) (i : Int) (D : Int) → Vn w E g m (i : Int) D f) → in32 ((i : Int) + 1) ∧ Vx (d + 2 * m + 5) m_X6_branches 0 0 14 [some (vR (some v)), some (vR (some a)), some (vI (dp : Int)), some (vI (D : Int)), some (vI (t : Int)), some (vL (enc f : Int)), none, some (vI ((i : Int) + 1)), none] [] (wyH h tr st T1 S1) K := fun q => ⟨i3 (by omega) (by omega), ih T1 S1 a1 a2 a3 (fun nx h1 h2 => by
      by_cases e : nx = i
      · rw [e]; exact q
      · exact a4 nx h1 (by omega))⟩
    have body : wpGR (wyH h tr st T1 S1) (some v) 5 2 (fun r5 => wpLJ (wyH h tr st T1 S1) r5 (((dp : Int) * 4) + (i : Int)) (fun n6 => ((n6 = (enc f : Int) → in32 ((i : Int) + 1) ∧ Vx (d + 2 * m + 5) m_X6_branches 0 0 14 [some (vR (some v)), some (vR (some a)), some (vI (dp : Int)), some (vI (D : Int)), some (vI (t : Int)), some (vL (enc f : Int)), none, some (vI ((i : Int) + 1)), none] [] (wyH h tr st T1 S1) K) ∧ (¬ (n6 = (enc f : Int)) → Vm (d + 2 * m + 4) m_X9_pairOf [vI (t : Int), vI (i : Int)] (wyH h tr st T1 S1) (kI (fun n9 h8 => wpCV h8 (some a) 7 (fun b24 => Vm (d + 2 * m + 4) m_X8_isMeeting [vR (some b24), vI n9, vI (D : Int)] h8 (kI (fun n11 h10 => ((n11 ≠ 0 → wpGR h10 (some v) 5 2 (fun r12 => wpSJ h10 r12 (((dp : Int) * 4) + (i : Int)) (enc f : Int) (fun h13 => wpGR h13 (some v) 5 3 (fun r14 => in32 ((D : Int) * 4) ∧ in32 (((D : Int) * 4) + (i : Int)) ∧ wpSI h13 r14 (dp : Int) (((D : Int) * 4) + (i : Int)) (fun h17 => in32 ((dp : Int) + 1) ∧ wpCV h17 (some v) 5 (fun b22 => Vm (d + 2 * m + 4) m_X6_leads [vR (some b22), vR (some a), vI ((dp : Int) + 1), vI (D : Int), vI (i : Int), vL (enc f : Int)] h17 (kI (fun n20 h19 => ((n20 = 0 → in32 ((i : Int) + 1) ∧ Vx (d + 2 * m + 5) m_X6_branches 0 0 14 [some (vR (some v)), some (vR (some a)), some (vI (dp : Int)), some (vI (D : Int)), some (vI (t : Int)), some (vL (enc f : Int)), none, some (vI ((i : Int) + 1)), none] [] h19 K) ∧ (¬ (n20 = 0) → K (some (vI 1)) h19)))))))))) ∧ (¬ (n11 ≠ 0) → in32 ((i : Int) + 1) ∧ Vx (d + 2 * m + 5) m_X6_branches 0 0 14 [some (vR (some v)), some (vR (some a)), some (vI (dp : Int)), some (vI (D : Int)), some (vI (t : Int)), some (vL (enc f : Int)), none, some (vI ((i : Int) + 1)), none] [] h10 K))))))))))) := by
      refine gR_i (ho1 _ _) rfl (lJ_i wy_tr (by omega) (by omega) ?_)
      rw [ei]
      refine ⟨fun q => skip (fun _ => ?_), fun q => ?_⟩
      · rcases a3 i hi with z | ⟨F, f1, f2, f3⟩
        · omega
        · have : F = f := enc_inj _ _ f1 hf (by omega)
          rw [← this]
          exact f3
      · refine cc_vmeet (d := d + 2 * m + 1) (cw.mv (xt_wy p1 p2)) hg ht hi (fun mt => ?_) (fun mt => ⟨fun z => absurd rfl z, fun _ => skip (fun z => absurd z mt)⟩)
        refine ⟨fun _ => ?_, fun z => absurd (by decide) z⟩
        refine gR_i (ho1 _ _) rfl (sJ_i wy_tr (by omega) (by omega) ?_)
        rw [ei, wy_J]
        refine gR_i (ho1 _ _) rfl ⟨i3 (by omega) (by omega), i3 (by omega) (by omega), sI_i wy_st (by omega) (by omega) ?_⟩
        rw [wy_I, Int.toNat_natCast]
        refine ⟨i3 (by omega) (by omega), cv_i (ho1 _ _) ?_⟩
        refine hL d (dp + 1) D i _ _ f _ (by omega) hD hbe hi hf (fun T' S' l l1 l2 l3 l4 l5 l6 => ?_) (fun T' S' s1 s2 s3 => ?_)
        · simp only [kI_some, kL_some, kR_some, kV_none, ne_eq, not_true_eq_false, not_false_eq_true, true_implies, false_implies, implies_true, true_and, and_true, ab_z01, or_true, true_or, reduceCtorEq, Option.some.injEq, Int.reduceEq, Int.reduceNe, Int.reduceLT, Int.reduceLE, Int.reduceNeg, Int.reduceAdd, Int.reduceSub, Int.reduceMul, Nat.reduceEqDiff, Nat.reduceAdd, Nat.reduceMul, Int.reduceToNat, ↓reduceIte]
          refine kT T' S' i l hi l1 mt l2 l3 (fun nx' hx => a4 nx' (by omega) hx) l4 ?_ l5 (fun j hj => ?_)
          · rw [l6 dp (by omega), vu_same]
            omega
          · rw [l6 j (by omega), vu_ne (by omega)]
            exact a1 j hj
        · simp only [kI_some, kL_some, kR_some, kV_none, ne_eq, not_true_eq_false, not_false_eq_true, true_implies, false_implies, implies_true, true_and, and_true, ab_z01, or_true, true_or, reduceCtorEq, Option.some.injEq, Int.reduceEq, Int.reduceNe, Int.reduceLT, Int.reduceLE, Int.reduceNeg, Int.reduceAdd, Int.reduceSub, Int.reduceMul, Nat.reduceEqDiff, Nat.reduceAdd, Nat.reduceMul, Int.reduceToNat, ↓reduceIte]
          refine ⟨i3 (by omega) (by omega), ?_⟩
          refine ih T' S' (fun j hj => ?_) (fun j hj => ?_) (fun j hj => ?_) (fun nx h1 h2 => ?_)
          · rw [s1 j (by omega), vu_ne (by omega)]
            exact a1 j hj
          · rw [s2 j (by omega), vu_ne (by omega)]
            exact a2 j hj
          · rw [s2 (4 * dp + j) (by omega)]
            by_cases e : j = i
            · rw [e, vu_same]
              exact Or.inr ⟨f, hf, rfl, s3⟩
            · rw [vu_ne (by omega)]
              exact a3 j hj
          · by_cases e : nx = i
            · rw [e]; exact fun _ => s3
            · exact a4 nx h1 (by omega)
    refine B_X6_branches_14 ⟨fun z => absurd z (by omega), fun _ => ⟨i3 (by omega) (by omega), i3 (by omega) (by omega), ?_⟩⟩
    refine gI_i (ho1 _ _) rfl ⟨i3 (by omega) (by omega), fun _ => body, fun q => ?_⟩
    refine gI_i (ho1 _ _) rfl ⟨fun _ => body, fun q2 => skip (fun _ l hl2 _ z => ?_)⟩
    have hm0 : m = 0 := by omega
    rw [List.eq_nil_of_length_eq_zero (show l.length = 0 by omega)] at z
    exact q2 z.1
set_option maxRecDepth 100000 in
set_option maxHeartbeats 4000000 in
theorem cc_vleadS {P : Nat → Prop} {h : AbH} {a : Nat} {w : Nat → Int} {v ql qb tr st : Nat} {E : List Int} {g : Int} {n m : Nat} {LW : Nat → Option Nat} {BZ : Nat → Int} (c : VC P h a w v ql qb tr st E g n LW BZ) (hB : BRs h a w v tr st E g n m) : LDs h a w v tr st E g n (m + 1) := by
  obtain ⟨cw, hg, ho, hl, hb, hp, p1, p2, hE, hgt, hn⟩ := c
  intro d dp D t T S f K hdp hD hbe ht hf kT kF
  have hw := cw.1
  rw [show d + 2 * (m + 1) + 4 = d + 2 * m + 6 by omega]
  have ho1 : ∀ T1 S1, hpO (wyH h tr st T1 S1) v = some (5, wyF ql qb tr st (enc E : Int) g (n : Int)) := fun _ _ => ho
  -- found
  have fin : ∀ (D' nx : Nat) (cs : List Nat) T' S', D ≤ D' → D' < 100 → nx < 4 → begB w D' = true → cs.length = m → wMet w (t : Int) (nx : Int) (D' : Int) → okP w D' cs → arrM w E g (nx : Int) D' (dev w (t : Int) (D : Int) (D' : Int) f) cs → (∀ nx' : Nat, nx' < nx → wMet w (t : Int) (nx' : Int) (D' : Int) → Vn w E g m (nx' : Int) D' (dev w (t : Int) (D : Int) (D' : Int) f)) → (∀ cs', cs'.length = m → lexL cs' cs → okP w D' cs' → ¬ arrM w E g (nx : Int) D' (dev w (t : Int) (D : Int) (D' : Int) f) cs') → (∀ D'' : Nat, D ≤ D'' → D'' < D' → begB w D'' = true → ∀ nx : Nat, nx < 4 → wMet w (t : Int) (nx : Int) (D'' : Int) → Vn w E g m (nx : Int) D'' (dev w (t : Int) (D : Int) (D'' : Int) f)) → S' dp = ((4 * D' + nx : Nat) : Int) → (∀ j, j < m → S' (dp + 1 + j) = ((cs.getD j 0 : Nat) : Int)) → (∀ j, j < dp → S' j = S j) → K (some (vI 1)) (wyH h tr st T' S') := by
    intro D' nx cs T' S' r1 r2 r3 r4 r5 r6 r7 r8 r9 r10 r11 r12 r13 r14
    refine kT T' S' ((4 * D' + nx) :: cs) (by rw [List.length_cons, r5]) ?_ ((arr_mk r3).mpr ⟨r6, r8⟩) (fun l' q1 q2 q3 q4 => ?_) (fun j hj => ?_) r14
    · refine ⟨?_, ?_, ?_, ?_⟩ <;> rw [show (4 * D' + nx) / 4 = D' by omega]
      · exact r4
      · exact r1
      · omega
      · exact r7
    · cases l' with
      | nil => exact q2
      | cons c' cs' =>
        have q1' : cs'.length = m := by simpa using q1
        obtain ⟨o1, o2, o3, o4⟩ := q3
        obtain ⟨y1, y2⟩ := q4
        rcases q2 with q2 | ⟨q2, q2'⟩
        · by_cases e : c' / 4 < D'
          · exact r11 (c' / 4) o2 e o1 (c' % 4) (by omega) y1 cs' q1' o4 y2
          · have e1 : c' / 4 = D' := by omega
            rw [e1] at y1 y2 o4
            exact r9 (c' % 4) (by omega) y1 cs' q1' o4 y2
        · rw [q2, show (4 * D' + nx) / 4 = D' by omega] at y2 o4
          rw [show (4 * D' + nx) % 4 = nx by omega] at y2
          exact r10 cs' q1' q2' o4 y2
    · cases j with
      | zero => exact r12
      | succ j =>
        have := r13 j (by omega)
        rw [show dp + (j + 1) = dp + 1 + j by omega]
        exact this
  refine Vm.intro rfl (Nat.le_of_ble_eq_true rfl) (fun _ => B_X6_leads_0 ?_)
  refine gI_i (ho1 _ _) rfl ?_
  rw [if_neg (show ¬ (3 : Int) < (n : Int) by omega)]
  refine ⟨i3 (by omega) (by omega), cc_within (fun _ => ?_) (fun q => absurd (by omega) q)⟩
  simp only [kI_some, kL_some, kR_some, kV_none, ne_eq, not_true_eq_false, not_false_eq_true, true_implies, false_implies, implies_true, true_and, and_true, ab_z01, or_true, true_or, reduceCtorEq, Option.some.injEq, Int.reduceEq, Int.reduceNe, Int.reduceLT, Int.reduceLE, Int.reduceNeg, Int.reduceAdd, Int.reduceSub, Int.reduceMul, Nat.reduceEqDiff, Nat.reduceAdd, Nat.reduceMul, Int.reduceToNat, ↓reduceIte]
  refine lp_up (P := fun i => ∀ T1, (∀ j, j < 4 * dp → T1 j = T j) → (∀ j, j < 4 → j < i → T1 (4 * dp + j) = -1) → Vx (d + 2 * m + 6) m_X6_leads 0 0 55 [some (vR (some v)), some (vR (some a)), some (vI (dp : Int)), some (vI (D : Int)), some (vI (t : Int)), some (vL (enc f : Int)), none, some (vI (i : Int)), none, none] [] (wyH h tr st T1 S) K) (n := 4) ?_ ?_ 0 (by omega) T (fun _ _ => rfl) (fun j _ hj => absurd hj (by omega))
  · intro T1 a1 a2
    refine B_X6_leads_55 ⟨fun _ => ?_, fun z => absurd (by decide) z⟩
    refine cv_i (ho1 _ _) ?_
    have e0 : dev w (t : Int) (D : Int) (D : Int) f = f := dev_id (fun j _ z => by omega)
    refine hB d dp D t T1 S f _ (by omega) hD hbe ht hf (fun j hj => Or.inl (a2 j hj hj)) (fun T' S' nx cs q1 q2 q3 q4 q5 q6 q7 q8 q9 q10 => ?_) (fun T' S' q1 q2 q3 q4 => ?_)
    · simp only [kI_some, kL_some, kR_some, kV_none, ne_eq, not_true_eq_false, not_false_eq_true, true_implies, false_implies, implies_true, true_and, and_true, ab_z01, or_true, true_or, reduceCtorEq, Option.some.injEq, Int.reduceEq, Int.reduceNe, Int.reduceLT, Int.reduceLE, Int.reduceNeg, Int.reduceAdd, Int.reduceSub, Int.reduceMul, Nat.reduceEqDiff, Nat.reduceAdd, Nat.reduceMul, Int.reduceToNat, ↓reduceIte]
      exact fin D nx cs T' S' (Nat.le_refl _) hD q1 hbe q2 q3 q4 (by rw [e0]; exact q5) (by rw [e0]; exact q6) (by rw [e0]; exact q7) (fun D'' h1 h2 => absurd h2 (by omega)) q8 q9 q10
    · simp only [kI_some, kL_some, kR_some, kV_none, ne_eq, not_true_eq_false, not_false_eq_true, true_implies, false_implies, implies_true, true_and, and_true, ab_z01, or_true, true_or, reduceCtorEq, Option.some.injEq, Int.reduceEq, Int.reduceNe, Int.reduceLT, Int.reduceLE, Int.reduceNeg, Int.reduceAdd, Int.reduceSub, Int.reduceMul, Nat.reduceEqDiff, Nat.reduceAdd, Nat.reduceMul, Int.reduceToNat, ↓reduceIte]
      refine ⟨i3 (by omega) (by omega), ?_⟩
      have key := lp_up (P := fun y => D ≤ y → ∀ T1 S1, (∀ j, j < dp → S1 j = S j) → (∀ j, j < 4 * dp → T1 j = T j) → tI w E g m dp y T1 → (∀ D'' : Nat, D ≤ D'' → D'' < y + 1 → begB w D'' = true → ∀ nx : Nat, nx < 4 → wMet w (t : Int) (nx : Int) (D'' : Int) → Vn w E g m (nx : Int) D'' (dev w (t : Int) (D : Int) (D'' : Int) f)) → Vx (d + 2 * m + 6) m_X6_leads 0 0 106 [some (vR (some v)), some (vR (some a)), some (vI (dp : Int)), some (vI (D : Int)), some (vI (t : Int)), some (vL (enc f : Int)), none, some (vL (enc (dev w (t : Int) (D : Int) (y : Int) f) : Int)), none, some (vI ((y : Int) + 1))] [] (wyH h tr st T1 S1) K) (n := 99) ?_ ?_ D (by omega) (Nat.le_refl _) T' S' q1 (fun j hj => by rw [q2 j hj, a1 j hj]) q3 (fun D'' h1 h2 hb2 nx hx mt => by
        rw [show D'' = D by omega, e0]
        rw [show D'' = D by omega] at mt
        exact q4 nx hx mt)
      · rw [e0] at key
        exact key
      · intro hDy T2 S2 s1 s2 s3 s4
        refine B_X6_leads_106 ⟨fun _ => kF T2 S2 s1 s2 (fun l hl2 hk z => ?_), fun z => absurd (by decide) z⟩
        cases l with
        | nil => exact absurd hl2 (by simp)
        | cons c' cs' =>
          have hl3 : cs'.length = m := by simpa using hl2
          obtain ⟨o1, o2, o3, o4⟩ := hk
          exact s4 (c' / 4) o2 (by omega) o1 (c' % 4) (by omega) z.1 cs' hl3 o4 z.2
      · intro y hy ih hDy T2 S2 s1 s2 s3 s4
        refine B_X6_leads_106 ⟨fun z => absurd z (by omega), fun _ => ?_⟩
        have ey : dev w (t : Int) (y : Int) ((y + 1 : Nat) : Int) (dev w (t : Int) (D : Int) (y : Int) f) = dev w (t : Int) (D : Int) ((y + 1 : Nat) : Int) f := dev_cmp hw (by omega) (by omega)
        refine cv_i (ho1 _ _) ?_
        refine cc_vbusy (D := y + 1) hw (ho1 _ _) (show hpZ (wyH h tr st T2 S2) qb = _ from hb) hp (by omega) (fun hz => ?_) (fun hz => ?_) <;> simp only [kI_some, kL_some, kR_some, kV_none, ne_eq, not_true_eq_false, not_false_eq_true, true_implies, false_implies, implies_true, true_and, and_true, ab_z01, or_true, true_or, reduceCtorEq, Option.some.injEq, Int.reduceEq, Int.reduceNe, Int.reduceLT, Int.reduceLE, Int.reduceNeg, Int.reduceAdd, Int.reduceSub, Int.reduceMul, Nat.reduceEqDiff, Nat.reduceAdd, Nat.reduceMul, Int.reduceToNat, ↓reduceIte]
        · refine cv_i (ho1 _ _) ?_
          refine cc_vchanged (D := y + 1) hw (ho1 _ _) (show hpR (wyH h tr st T2 S2) ql = _ from hl) (show PW w (wyH h tr st T2 S2) 16 16 LW BZ from hp) (by omega) ht (dev_V hw.L hf) ?_
          simp only [kI_some, kL_some, kR_some, kV_none, ne_eq, not_true_eq_false, not_false_eq_true, true_implies, false_implies, implies_true, true_and, and_true, ab_z01, or_true, true_or, reduceCtorEq, Option.some.injEq, Int.reduceEq, Int.reduceNe, Int.reduceLT, Int.reduceLE, Int.reduceNeg, Int.reduceAdd, Int.reduceSub, Int.reduceMul, Nat.reduceEqDiff, Nat.reduceAdd, Nat.reduceMul, Int.reduceToNat, ↓reduceIte]
          rw [show ((y + 1 : Nat) : Int) - 1 = (y : Int) by omega, ey]
          refine cv_i (ho1 _ _) ?_
          refine cc_vage hw ho hl hp (by omega) (by omega) s3 (fun T3 u1 u2 => ?_)
          simp only [kI_some, kL_some, kR_some, kV_none, ne_eq, not_true_eq_false, not_false_eq_true, true_implies, false_implies, implies_true, true_and, and_true, ab_z01, or_true, true_or, reduceCtorEq, Option.some.injEq, Int.reduceEq, Int.reduceNe, Int.reduceLT, Int.reduceLE, Int.reduceNeg, Int.reduceAdd, Int.reduceSub, Int.reduceMul, Nat.reduceEqDiff, Nat.reduceAdd, Nat.reduceMul, Int.reduceToNat, ↓reduceIte]
          refine cv_i (ho1 _ _) ?_
          refine hB d dp (y + 1) t T3 S2 _ _ (by omega) (by omega) (bz_beg hz) ht (dev_V hw.L hf) u2 (fun T4 S4 nx cs g1 g2 g3 g4 g5 g6 g7 g8 g9 g10 => ?_) (fun T4 S4 g1 g2 g3 g4 => ?_)
          · simp only [kI_some, kL_some, kR_some, kV_none, ne_eq, not_true_eq_false, not_false_eq_true, true_implies, false_implies, implies_true, true_and, and_true, ab_z01, or_true, true_or, reduceCtorEq, Option.some.injEq, Int.reduceEq, Int.reduceNe, Int.reduceLT, Int.reduceLE, Int.reduceNeg, Int.reduceAdd, Int.reduceSub, Int.reduceMul, Nat.reduceEqDiff, Nat.reduceAdd, Nat.reduceMul, Int.reduceToNat, ↓reduceIte]
            exact fin (y + 1) nx cs T4 S4 (by omega) (by omega) g1 (bz_beg hz) g2 g3 g4 g5 g6 g7 s4 g8 g9 (fun j hj => by rw [g10 j hj, s1 j hj])
          · simp only [kI_some, kL_some, kR_some, kV_none, ne_eq, not_true_eq_false, not_false_eq_true, true_implies, false_implies, implies_true, true_and, and_true, ab_z01, or_true, true_or, reduceCtorEq, Option.some.injEq, Int.reduceEq, Int.reduceNe, Int.reduceLT, Int.reduceLE, Int.reduceNeg, Int.reduceAdd, Int.reduceSub, Int.reduceMul, Nat.reduceEqDiff, Nat.reduceAdd, Nat.reduceMul, Int.reduceToNat, ↓reduceIte]
            refine ⟨i3 (by omega) (by omega), ?_⟩
            refine ih (by omega) T4 S4 (fun j hj => by rw [g1 j hj, s1 j hj]) (fun j hj => by rw [g2 j hj, u1 j hj, s2 j hj]) g3 (fun D'' h1 h2 hb2 nx hx mt => ?_)
            by_cases e : D'' = y + 1
            · rw [e] at mt ⊢
              exact g4 nx hx mt
            · exact s4 D'' h1 (by omega) hb2 nx hx mt
        · refine ⟨i3 (by omega) (by omega), ?_⟩
          have noL : ∀ j, j < nl w → lw w j 1 ≠ ((y + 1 : Nat) : Int) := fun j hj z => hz (Or.inl ⟨j, hj, z⟩)
          have eid : ∀ (u : Int) (F : List Int), dev w u (y : Int) ((y + 1 : Nat) : Int) F = F := fun u F => dev_id (fun j hj z => noL j hj (by omega))
          rw [eid] at ey
          have := ih (by omega) T2 S2 s1 s2 (fun j hj => ?_) (fun D'' h1 h2 hb2 nx hx mt => ?_)
          · rw [← ey] at this
            exact this
          · rcases s3 j hj with z | ⟨F, f1, f2, f3⟩
            · exact Or.inl z
            · have := f3.age hw (show y ≤ y + 1 by omega) (by omega)
              rw [eid] at this
              exact Or.inr ⟨F, f1, f2, this⟩
          · by_cases e : D'' = y + 1
            · rw [e] at hb2
              exact absurd (beg_bz (by omega) hb2) hz
            · exact s4 D'' h1 (by omega) hb2 nx hx mt
  · intro i hi ih T1 a1 a2
    refine B_X6_leads_55 ⟨fun z => absurd z (by omega), fun _ => ?_⟩
    refine gR_i (ho1 _ _) rfl ⟨i3 (by omega) (by omega), i3 (by omega) (by omega), sJ_i wy_tr (by omega) (by omega) ?_⟩
    rw [show ((dp : Int) * 4 + (i : Int)).toNat = 4 * dp + i by omega, wy_J]
    refine ⟨i3 (by omega) (by omega), ih _ (fun j hj => by rw [vu_ne (by omega)]; exact a1 j hj) (fun j h1 h2 => ?_)⟩
    by_cases e : j = i
    · rw [e, vu_same]
    · rw [vu_ne (by omega)]
      exact a2 j h1 (by omega)
theorem cc_vleads {P : Nat → Prop} {h : AbH} {a : Nat} {w : Nat → Int} {v ql qb tr st : Nat} {E : List Int} {g : Int} {n : Nat} {LW : Nat → Option Nat} {BZ : Nat → Int} (c : VC P h a w v ql qb tr st E g n LW BZ) : ∀ m, LDs h a w v tr st E g n m
  | 0 => cc_vlead0 c
  | m + 1 => cc_vleadS c (cc_vbranch c (cc_vleads c m))
