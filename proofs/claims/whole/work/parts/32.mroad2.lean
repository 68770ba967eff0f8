set_option maxRecDepth 100000 in
set_option maxHeartbeats 4000000 in
theorem mc_roadOf {d : Nat} {h : AbH} {m : Nat} {ad : Nat → Nat} {sc : Nat → Int} {ar : Nat → Nat → Int} {K : Option AbV → AbH → Prop} (hA : mA ad) {k e g : Nat} {t : Int} (hw : wV (ar 0)) (hk : k < no (ar 0)) (he : e < no (ar 0)) (ht : tg t) (hg : g ≤ 3) (kk : ∀ r l, isRd (ar 0) k t e (g : Int) r l → ∀ sc' ar', mE RS sc ar sc' ar' → (∀ j, j < l.length → ar' 20 j = ((l.getD j 0 : Nat) : Int)) → K (some (vI r)) (mH h m ad sc' ar')) : Vm (d + 7) m_X10_roadOf [vR (some m), vI (k : Int), vI t, vI (e : Int), vI (g : Int)] (mH h m ad sc ar) K := by
  obtain ⟨A, hAr⟩ : ∃ A, A = arrM (ar 0) (wend (ar 0) e) (g : Int) t 0 (word (ar 0) k) := ⟨_, rfl⟩
  refine Vm.intro rfl (Nat.le_of_ble_eq_true rfl) (fun _ => B_X10_roadOf_0 ?_)
  simp only [mCV]
  refine mc_findsDates hA hw (fun sc1 ar1 n D hE1 h22 hn hD h21 => ?_)
  have e1 : ar1 0 = ar 0 := hE1.2 0 (by decide)
  have hE1 := hE1.mono DS_RS
  -- no way of three steps or less
  have F4 : (∀ l', l'.length < 4 → okP (ar 0) 0 l' → ¬ A l') → ∀ sc' ar', mE RdS sc1 ar1 sc' ar' → Vx (d + 7) m_X10_roadOf 0 0 81 [some (vR (some m)), some (vI (k : Int)), some (vI t), some (vI (e : Int)), some (vI (g : Int)), some (vI ((4 * n : Nat) : Int)), some (vI ((4 : Nat) : Int)), none, none] [] (mH h m ad sc' ar') K := by
    intro hN sc' ar' hE
    refine B_X10_roadOf_81 ⟨fun _ => ?_, fun c => absurd (by decide) c⟩
    refine kk (-1) [] (Or.inl ⟨rfl, rfl, fun l' h1 h2 => ?_⟩) sc' ar' (hE1.tr (hE.mono RdS_RS)) (fun j hj => absurd hj (by simp))
    rw [← hAr]
    exact hN l' (by omega) h2
  have FS : ∀ s : Nat, s = 2 ∨ s = 3 → ((∀ l', l'.length < s + 1 → okP (ar 0) 0 l' → ¬ A l') → ∀ sc' ar', mE RdS sc1 ar1 sc' ar' → Vx (d + 7) m_X10_roadOf 0 0 81 [some (vR (some m)), some (vI (k : Int)), some (vI t), some (vI (e : Int)), some (vI (g : Int)), some (vI ((4 * n : Nat) : Int)), some (vI ((s + 1 : Nat) : Int)), none, none] [] (mH h m ad sc' ar') K) → (∀ l', l'.length < s → okP (ar 0) 0 l' → ¬ A l') → ∀ sc' ar', mE RdS sc1 ar1 sc' ar' → Vx (d + 7) m_X10_roadOf 0 0 81 [some (vR (some m)), some (vI (k : Int)), some (vI t), some (vI (e : Int)), some (vI (g : Int)), some (vI ((4 * n : Nat) : Int)), some (vI (s : Int)), none, none] [] (mH h m ad sc' ar') K := by
    intro s hs nxt hN sc' ar' hE
    refine B_X10_roadOf_81 ⟨fun c => absurd c (by omega), fun _ => ?_⟩
    refine lp_up (P := fun i => ∀ sc' ar', mE RdS sc1 ar1 sc' ar' → (∀ i', i' < i → ∀ r, r.length = s - 1 → okP (ar 0) (D (i' / 4)) r → ¬ A (cdD D i' :: r)) → Vx (d + 7) m_X10_roadOf 0 0 90 [some (vR (some m)), some (vI (k : Int)), some (vI t), some (vI (e : Int)), some (vI (g : Int)), some (vI ((4 * n : Nat) : Int)), some (vI (s : Int)), some (vI (i : Int)), none] [] (mH h m ad sc' ar') K) (n := 4 * n) ?_ ?_ 0 (by omega) sc' ar' hE (fun i' h1 => absurd h1 (by omega))
    · intro sc' ar' hE hB
      refine B_X10_roadOf_90 ⟨fun _ => ⟨i3 (by omega) (by omega), ?_⟩, fun c => absurd (by omega) c⟩
      refine nxt (fun l' h1 h2 => ?_) sc' ar' hE
      by_cases q : l'.length < s
      · exact hN l' q h2
      · cases l' with
        | nil => exact absurd (show 0 < s by omega) q
        | cons c cs =>
          obtain ⟨i', hi', ec, hd, hk2⟩ := okP_cons hD h2
          rw [← ec]
          have hl : (c :: cs).length = cs.length + 1 := rfl
          exact hB i' hi' cs (by omega) hk2
    · intro i hi ih sc' ar' hE hB
      have e21 : ar' 21 = ar1 21 := hE.2 21 (by decide)
      have hci := cd_400 hD hi
      refine B_X10_roadOf_90 ⟨fun c => absurd c (by omega), fun _ => ?_⟩
      simp only [mCV]
      refine mc_steps hA (i := 0) (D := D) (by decide) (by omega) (by rw [e21]; exact h21 _ (by omega)) ((hD.1 (i / 4) (by omega)).2) ?_
      simp only [kI_some, kL_some, kR_some, kV_none, ne_eq, not_true_eq_false, not_false_eq_true, true_implies, false_implies, implies_true, true_and, and_true, ab_z01, or_true, true_or, reduceCtorEq, Option.some.injEq, Int.reduceEq, Int.reduceNe, Int.reduceLT, Int.reduceLE, Int.reduceNeg, Int.reduceAdd, Int.reduceSub, Int.reduceMul, Nat.reduceEqDiff, Nat.reduceAdd, Nat.reduceMul, Int.reduceToNat, ↓reduceIte]
      repeat (first | refine And.intro (by omega) ?_ | refine And.intro (i3 (by omega) (by omega)) ?_)
      rw [show (i : Int) / 4 * 4 = ((i / 4 * 4 : Nat) : Int) by omega]
      refine lp_up (P := fun j => i / 4 * 4 ≤ j → ∀ sc' ar', mE RdS sc1 ar1 sc' ar' → ar' 20 0 = (cdD D i : Int) → (∀ j', j' < j → i / 4 * 4 ≤ j' → ∀ r, r.length = s - 2 → okP (ar 0) (D (j' / 4)) r → ¬ A (cdD D i :: cdD D j' :: r)) → Vx (d + 7) m_X10_roadOf 0 0 112 [some (vR (some m)), some (vI (k : Int)), some (vI t), some (vI (e : Int)), some (vI (g : Int)), some (vI ((4 * n : Nat) : Int)), some (vI (s : Int)), some (vI (i : Int)), some (vI (j : Int))] [] (mH h m ad sc' ar') K) (n := 4 * n) ?_ ?_ (i / 4 * 4) (by omega) (Nat.le_refl _) _ _ (hE.ar (by decide)) (by rw [vu_same, vu_same]) (fun j' h1 h2 => absurd h1 (by omega))
      · intro hj0 sc' ar' hE z0 hC
        refine B_X10_roadOf_112 ⟨fun _ => ⟨i3 (by omega) (by omega), ?_⟩, fun c => absurd (by omega) c⟩
        refine ih sc' ar' hE (fun i' h1 r h2 h3 => ?_)
        by_cases c : i' < i
        · exact hB i' c r h2 h3
        · rw [show i' = i by omega] at h3 ⊢
          cases r with
          | nil => exact absurd h2 (by simp; omega)
          | cons c cs =>
            obtain ⟨j', hj', ec, hd, hk2⟩ := okP_cons hD h3
            rw [← ec]
            have hl : (c :: cs).length = cs.length + 1 := rfl
            have := (D_le hD (i := i / 4) (j := j' / 4) (by omega) (by omega)).mp hd
            exact hC j' hj' (by omega) cs (by omega) hk2
      · intro j hj ihj hj0 sc' ar' hE z0 hC
        have e0 : ar' 0 = ar 0 := (hE.2 0 (by decide)).trans e1
        have e21 : ar' 21 = ar1 21 := hE.2 21 (by decide)
        have hcj := cd_400 hD hj
        have hdij : D (i / 4) ≤ D (j / 4) := (D_le hD (i := i / 4) (j := j / 4) (by omega) (by omega)).mpr (by omega)
        refine B_X10_roadOf_112 ⟨fun c => absurd c (by omega), fun _ => ?_⟩
        simp only [mCV, kI_some, kL_some, kR_some, kV_none, vu_app, mgR_0, mgR_3, mgR_12, mgR_13, mgR_14, mgR_16, mgR_17, mgR_18, mgR_19, mgR_20, mgR_21, mgR_2, mgR_7, mgI_1, mgI_4, mgI_5, mgI_6, mgI_8, mgI_9, mgI_10, mgI_11, mgI_15, mgI_22, mpI_1, mpI_4, mpI_5, mpI_6, mpI_8, mpI_9, mpI_10, mpI_11, mpI_15, mpI_22, mlI_0 hA, mlI_3 hA, mlI_12 hA, mlI_13 hA, mlI_14 hA, mlI_16 hA, mlI_17 hA, mlI_18 hA, mlI_19 hA, mlI_20 hA, mlI_21 hA, msI_0 hA, msI_3 hA, msI_12 hA, msI_13 hA, msI_14 hA, msI_16 hA, msI_17 hA, msI_18 hA, msI_19 hA, msI_20 hA, msI_21 hA, mlZ_2 hA, mlZ_7 hA, msZ_2 hA, msZ_7 hA, kI_some, kL_some, kR_some, kV_none, ne_eq, not_true_eq_false, not_false_eq_true, true_implies, false_implies, implies_true, true_and, and_true, ab_z01, or_true, true_or, reduceCtorEq, Option.some.injEq, Int.reduceEq, Int.reduceNe, Int.reduceLT, Int.reduceLE, Int.reduceNeg, Int.reduceAdd, Int.reduceSub, Int.reduceMul, Nat.reduceEqDiff, Nat.reduceAdd, Nat.reduceMul, Int.reduceToNat, ↓reduceIte, z0]
        repeat (first | refine And.intro (by omega) ?_ | refine And.intro (i3 (by omega) (by omega)) ?_)
        rw [show (cdD D i : Int) % 4 = ((cdD D i % 4 : Nat) : Int) by omega, show (cdD D i : Int) / 4 = ((cdD D i / 4 : Nat) : Int) by omega]
        refine mc_isMet hA ht ⟨by omega, by omega⟩ (by rw [e0]; exact hw.met) (fun z => ?_) (fun z => ?_) <;> simp only [mCV, kI_some, kL_some, kR_some, kV_none, vu_app, mgR_0, mgR_3, mgR_12, mgR_13, mgR_14, mgR_16, mgR_17, mgR_18, mgR_19, mgR_20, mgR_21, mgR_2, mgR_7, mgI_1, mgI_4, mgI_5, mgI_6, mgI_8, mgI_9, mgI_10, mgI_11, mgI_15, mgI_22, mpI_1, mpI_4, mpI_5, mpI_6, mpI_8, mpI_9, mpI_10, mpI_11, mpI_15, mpI_22, mlI_0 hA, mlI_3 hA, mlI_12 hA, mlI_13 hA, mlI_14 hA, mlI_16 hA, mlI_17 hA, mlI_18 hA, mlI_19 hA, mlI_20 hA, mlI_21 hA, msI_0 hA, msI_3 hA, msI_12 hA, msI_13 hA, msI_14 hA, msI_16 hA, msI_17 hA, msI_18 hA, msI_19 hA, msI_20 hA, msI_21 hA, mlZ_2 hA, mlZ_7 hA, msZ_2 hA, msZ_7 hA, kI_some, kL_some, kR_some, kV_none, ne_eq, not_true_eq_false, not_false_eq_true, true_implies, false_implies, implies_true, true_and, and_true, ab_z01, or_true, true_or, reduceCtorEq, Option.some.injEq, Int.reduceEq, Int.reduceNe, Int.reduceLT, Int.reduceLE, Int.reduceNeg, Int.reduceAdd, Int.reduceSub, Int.reduceMul, Nat.reduceEqDiff, Nat.reduceAdd, Nat.reduceMul, Int.reduceToNat, ↓reduceIte]
        · refine mc_steps hA (i := 1) (D := D) (by decide) (by omega) (by rw [e21]; exact h21 _ (by omega)) ((hD.1 (j / 4) (by omega)).2) ?_
          simp only [mCV, kI_some, kL_some, kR_some, kV_none, vu_app, mgR_0, mgR_3, mgR_12, mgR_13, mgR_14, mgR_16, mgR_17, mgR_18, mgR_19, mgR_20, mgR_21, mgR_2, mgR_7, mgI_1, mgI_4, mgI_5, mgI_6, mgI_8, mgI_9, mgI_10, mgI_11, mgI_15, mgI_22, mpI_1, mpI_4, mpI_5, mpI_6, mpI_8, mpI_9, mpI_10, mpI_11, mpI_15, mpI_22, mlI_0 hA, mlI_3 hA, mlI_12 hA, mlI_13 hA, mlI_14 hA, mlI_16 hA, mlI_17 hA, mlI_18 hA, mlI_19 hA, mlI_20 hA, mlI_21 hA, msI_0 hA, msI_3 hA, msI_12 hA, msI_13 hA, msI_14 hA, msI_16 hA, msI_17 hA, msI_18 hA, msI_19 hA, msI_20 hA, msI_21 hA, mlZ_2 hA, mlZ_7 hA, msZ_2 hA, msZ_7 hA, kI_some, kL_some, kR_some, kV_none, ne_eq, not_true_eq_false, not_false_eq_true, true_implies, false_implies, implies_true, true_and, and_true, ab_z01, or_true, true_or, reduceCtorEq, Option.some.injEq, Int.reduceEq, Int.reduceNe, Int.reduceLT, Int.reduceLE, Int.reduceNeg, Int.reduceAdd, Int.reduceSub, Int.reduceMul, Nat.reduceEqDiff, Nat.reduceAdd, Nat.reduceMul, Int.reduceToNat, ↓reduceIte]
          -- behind the second step
          have hE' : mE RdS sc1 ar1 sc' (va_up ar' 20 (va_up (ar' 20) 1 (cdD D j : Int))) := hE.ar (by decide)
          have y0 : (va_up ar' 20 (va_up (ar' 20) 1 (cdD D j : Int))) 20 0 = (cdD D i : Int) := by rw [vu_same, vu_ne (by decide)]; exact z0
          have y1 : (va_up ar' 20 (va_up (ar' 20) 1 (cdD D j : Int))) 20 1 = (cdD D j : Int) := by rw [vu_same, vu_same]
          have y21 : (va_up ar' 20 (va_up (ar' 20) 1 (cdD D j : Int))) 21 = ar1 21 := by rw [vu_ne (by decide)]; exact e21
          have ya : (va_up ar' 20 (va_up (ar' 20) 1 (cdD D j : Int))) 0 = ar 0 := by rw [vu_ne (by decide)]; exact e0
          obtain ⟨ar3, h3⟩ : ∃ a, a = va_up ar' 20 (va_up (ar' 20) 1 (cdD D j : Int)) := ⟨_, rfl⟩
          rw [← h3] at hE' y0 y1 y21 ya ⊢
          -- success
          have good : ∀ r, r.length = s - 2 → okP (ar 0) (D (j / 4)) r → A (cdD D i :: cdD D j :: r) → (∀ r', r'.length = r.length → lexL r' r → okP (ar 0) (D (j / 4)) r' → ¬ A (cdD D i :: cdD D j :: r')) → isRd (ar 0) k t e (g : Int) (s : Int) (cdD D i :: cdD D j :: r) := by
            intro r h1 h2 h3 h4
            have hl : (cdD D i :: cdD D j :: r).length = r.length + 1 + 1 := rfl
            have hls : (cdD D i :: cdD D j :: r).length = s := by omega
            refine Or.inr ⟨by omega, by omega, okP_mk hD hi (Nat.zero_le _) (okP_mk hD hj hdij h2), by rw [← hAr]; exact h3, fun l' g1 g2 => ?_, ?_⟩
            · rw [← hAr]
              exact hN l' (by omega) g2
            · rw [← hAr]
              refine lmin hD hi (r := cdD D j :: r) (Q := fun l => ¬ A l) (fun i' g1 _ r' g2 g3 => hB i' g1 r' (by have : (cdD D j :: r).length = r.length + 1 := rfl; omega) g3) ?_
              refine lmin hD hj (r := r) (Q := fun l => ¬ A (cdD D i :: l)) (fun j' g1 g5 r' g2 g3 => ?_) h4
              by_cases c : j' < 4 * n
              · have := (D_le hD (i := i / 4) (j := j' / 4) (by omega) (by omega)).mp g5
                exact hC j' g1 (by omega) r' (by omega) g3
              · omega
          -- failure
          have bad : (∀ r, r.length = s - 2 → okP (ar 0) (D (j / 4)) r → ¬ A (cdD D i :: cdD D j :: r)) → ∀ sc4 ar4, mE RdS sc' ar3 sc4 ar4 → ar4 20 0 = (cdD D i : Int) → in32 ((j : Int) + 1) ∧ Vx (d + 7) m_X10_roadOf 0 0 112 [some (vR (some m)), some (vI (k : Int)), some (vI t), some (vI (e : Int)), some (vI (g : Int)), some (vI ((4 * n : Nat) : Int)), some (vI (s : Int)), some (vI (i : Int)), some (vI ((j : Int) + 1))] [] (mH h m ad sc4 ar4) K := by
            intro hb sc4 ar4 hE4 z4
            refine ⟨i3 (by omega) (by omega), ihj (by omega) sc4 ar4 (hE'.tr hE4) z4 (fun j' g1 g2 r g3 g4 => ?_)⟩
            by_cases c : j' < j
            · exact hC j' c g2 r g3 g4
            · rw [show j' = j by omega] at g4 ⊢
              exact hb r g3 g4
          refine ⟨fun c => ?_, fun c => ?_⟩
          · have hs3 : s = 3 := by omega
            refine mc_isThird hA (D := D) (i := i) (by rw [ya]; exact hw) (by rw [ya]; exact hk) (by rw [ya]; exact he) ht hg hn (by rw [ya]; exact hD) (by rw [y21]; exact h21) hi hj y0 y1 (fun q q1 q2 q3 q4 sc4 ar4 hE4 w0 w1 w2 => ?_) (fun q1 sc4 ar4 hE4 w0 => ?_)
            · simp only [kI_some, kL_some, kR_some, kV_none, ne_eq, not_true_eq_false, not_false_eq_true, true_implies, false_implies, implies_true, true_and, and_true, ab_z01, or_true, true_or, reduceCtorEq, Option.some.injEq, Int.reduceEq, Int.reduceNe, Int.reduceLT, Int.reduceLE, Int.reduceNeg, Int.reduceAdd, Int.reduceSub, Int.reduceMul, Nat.reduceEqDiff, Nat.reduceAdd, Nat.reduceMul, Int.reduceToNat, ↓reduceIte]
              rw [ya, ← hAr] at q3
              have hdjq : D (j / 4) ≤ D (q / 4) := (D_le hD (i := j / 4) (j := q / 4) (by omega) (by omega)).mpr (by omega)
              refine kk _ _ (good [cdD D q] (by rw [hs3]; rfl) (okP_mk hD q1 hdjq trivial) q3 ?_) sc4 ar4 ((hE1.tr (hE'.mono RdS_RS)).tr (hE4.mono RdS_RS)) (fun x hx => ?_)
              · refine lmin hD q1 (r := []) (Q := fun l => ¬ A (cdD D i :: cdD D j :: l)) (fun q' g1 g5 r' g2 g3 => ?_) (fun r' g1 g2 => ?_)
                · have : r' = [] := List.eq_nil_of_length_eq_zero g2
                  rw [this]
                  by_cases c : q' < 4 * n
                  · have := (D_le hD (i := j / 4) (j := q' / 4) (by omega) (by omega)).mp g5
                    have := q4 q' g1 (by omega)
                    rw [ya, ← hAr] at this
                    exact this
                  · omega
                · have : r' = [] := List.eq_nil_of_length_eq_zero g1
                  rw [this] at g2
                  exact absurd g2 (fun z => z)
              · have hx : x < 3 := hx
                have : x = 0 ∨ x = 1 ∨ x = 2 := by omega
                rcases this with rfl | rfl | rfl
                · exact w0
                · exact w1
                · exact w2
            · simp only [kI_some, kL_some, kR_some, kV_none, ne_eq, not_true_eq_false, not_false_eq_true, true_implies, false_implies, implies_true, true_and, and_true, ab_z01, or_true, true_or, reduceCtorEq, Option.some.injEq, Int.reduceEq, Int.reduceNe, Int.reduceLT, Int.reduceLE, Int.reduceNeg, Int.reduceAdd, Int.reduceSub, Int.reduceMul, Nat.reduceEqDiff, Nat.reduceAdd, Nat.reduceMul, Int.reduceToNat, ↓reduceIte]
              refine bad (fun r r1 r2 => ?_) sc4 ar4 hE4 w0
              cases r with
              | nil => exact absurd r1 (by rw [hs3]; decide)
              | cons c cs =>
                have hcs : cs = [] := List.eq_nil_of_length_eq_zero (by have : (c :: cs).length = cs.length + 1 := rfl; omega)
                obtain ⟨q, hq, ec, hd, _⟩ := okP_cons hD r2
                rw [hcs, ← ec]
                have := (D_le hD (i := j / 4) (j := q / 4) (by omega) (by omega)).mp hd
                have := q1 q hq (by omega)
                rw [ya, ← hAr] at this
                exact this
          · have hs2 : s = 2 := by omega
            refine mc_arrives hA (l := [cdD D i, cdD D j]) (n := 2) (by rw [ya]; exact hw) (by rw [ya]; exact hk) (by rw [ya]; exact he) ht rfl (by decide) ?_ (fun a sc4 ar4 hE4 => ?_) (fun a sc4 ar4 hE4 => ?_)
            · intro x hx
              have hx : x < 2 := hx
              have : x = 0 ∨ x = 1 := by omega
              rcases this with rfl | rfl
              · rw [y0]; exact ⟨rfl, hci⟩
              · rw [y1]; exact ⟨rfl, hcj⟩
            · simp only [kI_some, kL_some, kR_some, kV_none, ne_eq, not_true_eq_false, not_false_eq_true, true_implies, false_implies, implies_true, true_and, and_true, ab_z01, or_true, true_or, reduceCtorEq, Option.some.injEq, Int.reduceEq, Int.reduceNe, Int.reduceLT, Int.reduceLE, Int.reduceNeg, Int.reduceAdd, Int.reduceSub, Int.reduceMul, Nat.reduceEqDiff, Nat.reduceAdd, Nat.reduceMul, Int.reduceToNat, ↓reduceIte]
              rw [ya, ← hAr] at a
              have e20 := hE4.2 20 (by decide)
              refine kk _ _ (good [] (by rw [hs2]; rfl) trivial a (fun r' g1 g2 => ?_)) sc4 ar4 ((hE1.tr (hE'.mono RdS_RS)).tr ((hE4.mono FS_RdS).mono RdS_RS)) (fun x hx => ?_)
              · have : r' = [] := List.eq_nil_of_length_eq_zero g1
                rw [this] at g2
                exact absurd g2 (fun z => z)
              · have hx : x < 2 := hx
                have : x = 0 ∨ x = 1 := by omega
                rw [e20]
                rcases this with rfl | rfl
                · exact y0
                · exact y1
            · simp only [kI_some, kL_some, kR_some, kV_none, ne_eq, not_true_eq_false, not_false_eq_true, true_implies, false_implies, implies_true, true_and, and_true, ab_z01, or_true, true_or, reduceCtorEq, Option.some.injEq, Int.reduceEq, Int.reduceNe, Int.reduceLT, Int.reduceLE, Int.reduceNeg, Int.reduceAdd, Int.reduceSub, Int.reduceMul, Nat.reduceEqDiff, Nat.reduceAdd, Nat.reduceMul, Int.reduceToNat, ↓reduceIte]
              rw [ya, ← hAr] at a
              have e20 := hE4.2 20 (by decide)
              refine bad (fun r r1 r2 => ?_) sc4 ar4 (hE4.mono FS_RdS) (by rw [e20]; exact y0)
              have : r = [] := List.eq_nil_of_length_eq_zero (by omega)
              rw [this]
              exact a
        · rw [e0] at z
          refine ⟨i3 (by omega) (by omega), ?_⟩
          refine ih sc' ar' hE (fun i' h1 r h2 h3 => ?_)
          by_cases c : i' < i
          · exact hB i' c r h2 h3
          · rw [show i' = i by omega, hAr]
            exact fun b => z b.1
  -- one step
  have F30 : ¬ A [] → ∀ sc' ar', mE RdS sc1 ar1 sc' ar' → Vx (d + 7) m_X10_roadOf 0 0 30 [some (vR (some m)), some (vI (k : Int)), some (vI t), some (vI (e : Int)), some (vI (g : Int)), some (vI ((4 * n : Nat) : Int)), some (vI 0), none, none] [] (mH h m ad sc' ar') K := by
    intro hA0 sc' ar' hE
    refine lp_up (P := fun i => ∀ sc' ar', mE RdS sc1 ar1 sc' ar' → (∀ i', i' < i → ¬ A [cdD D i']) → Vx (d + 7) m_X10_roadOf 0 0 30 [some (vR (some m)), some (vI (k : Int)), some (vI t), some (vI (e : Int)), some (vI (g : Int)), some (vI ((4 * n : Nat) : Int)), some (vI (i : Int)), none, none] [] (mH h m ad sc' ar') K) (n := 4 * n) ?_ ?_ 0 (by omega) sc' ar' hE (fun i' h1 => absurd h1 (by omega))
    · intro sc' ar' hE hB
      refine B_X10_roadOf_30 ⟨fun _ => ?_, fun c => absurd (by omega) c⟩
      refine FS 2 (Or.inl rfl) (FS 3 (Or.inr rfl) F4) (fun l' h1 h2 => ?_) sc' ar' hE
      cases l' with
      | nil => exact hA0
      | cons c cs =>
        have hcs : cs = [] := List.eq_nil_of_length_eq_zero (by have : (c :: cs).length = cs.length + 1 := rfl; omega)
        obtain ⟨q, hq, ec, hd, _⟩ := okP_cons hD h2
        rw [hcs, ← ec]
        exact hB q hq
    · intro i hi ih sc' ar' hE hB
      have e0 : ar' 0 = ar 0 := (hE.2 0 (by decide)).trans e1
      have e21 : ar' 21 = ar1 21 := hE.2 21 (by decide)
      have hci := cd_400 hD hi
      refine B_X10_roadOf_30 ⟨fun c => absurd c (by omega), fun _ => ?_⟩
      simp only [mCV]
      refine mc_steps hA (i := 0) (D := D) (by decide) (by omega) (by rw [e21]; exact h21 _ (by omega)) ((hD.1 (i / 4) (by omega)).2) ?_
      simp only [mCV, kI_some, kL_some, kR_some, kV_none, vu_app, mgR_0, mgR_3, mgR_12, mgR_13, mgR_14, mgR_16, mgR_17, mgR_18, mgR_19, mgR_20, mgR_21, mgR_2, mgR_7, mgI_1, mgI_4, mgI_5, mgI_6, mgI_8, mgI_9, mgI_10, mgI_11, mgI_15, mgI_22, mpI_1, mpI_4, mpI_5, mpI_6, mpI_8, mpI_9, mpI_10, mpI_11, mpI_15, mpI_22, mlI_0 hA, mlI_3 hA, mlI_12 hA, mlI_13 hA, mlI_14 hA, mlI_16 hA, mlI_17 hA, mlI_18 hA, mlI_19 hA, mlI_20 hA, mlI_21 hA, msI_0 hA, msI_3 hA, msI_12 hA, msI_13 hA, msI_14 hA, msI_16 hA, msI_17 hA, msI_18 hA, msI_19 hA, msI_20 hA, msI_21 hA, mlZ_2 hA, mlZ_7 hA, msZ_2 hA, msZ_7 hA, kI_some, kL_some, kR_some, kV_none, ne_eq, not_true_eq_false, not_false_eq_true, true_implies, false_implies, implies_true, true_and, and_true, ab_z01, or_true, true_or, reduceCtorEq, Option.some.injEq, Int.reduceEq, Int.reduceNe, Int.reduceLT, Int.reduceLE, Int.reduceNeg, Int.reduceAdd, Int.reduceSub, Int.reduceMul, Nat.reduceEqDiff, Nat.reduceAdd, Nat.reduceMul, Int.reduceToNat, ↓reduceIte, if_true]
      repeat (first | refine And.intro (by omega) ?_ | refine And.intro (i3 (by omega) (by omega)) ?_)
      refine ⟨fun c => ⟨i3 (by omega) (by omega), ?_⟩, fun c => ?_⟩
      · refine ih sc' _ (hE.ar (by decide)) (fun i' h1 => ?_)
        by_cases q : i' < i
        · exact hB i' q
        · rw [show i' = i by omega, hAr]
          intro b
          have b1 : ((cdD D i % 4 : Nat) : Int) = (g : Int) := b.2.1
          omega
      · refine mc_arrives hA (l := [cdD D i]) (n := 1) (by rw [vu_ne (by decide), e0]; exact hw) (by rw [vu_ne (by decide), e0]; exact hk) (by rw [vu_ne (by decide), e0]; exact he) ht rfl (by decide) ?_ (fun a sc4 ar4 hE4 => ?_) (fun a sc4 ar4 hE4 => ?_)
        · intro x hx
          have hx : x < 1 := hx
          rw [show x = 0 by omega, vu_same, vu_same]
          exact ⟨rfl, hci⟩
        · simp only [kI_some, kL_some, kR_some, kV_none, ne_eq, not_true_eq_false, not_false_eq_true, true_implies, false_implies, implies_true, true_and, and_true, ab_z01, or_true, true_or, reduceCtorEq, Option.some.injEq, Int.reduceEq, Int.reduceNe, Int.reduceLT, Int.reduceLE, Int.reduceNeg, Int.reduceAdd, Int.reduceSub, Int.reduceMul, Nat.reduceEqDiff, Nat.reduceAdd, Nat.reduceMul, Int.reduceToNat, ↓reduceIte]
          rw [vu_ne (by decide), e0, ← hAr] at a
          have e20 := hE4.2 20 (by decide)
          refine kk 1 [cdD D i] (Or.inr ⟨rfl, by simp, okP_mk hD hi (Nat.zero_le _) trivial, by rw [← hAr]; exact a, fun l' g1 g2 => ?_, ?_⟩) sc4 ar4 ((hE1.tr ((hE.ar (by decide)).mono RdS_RS)).tr ((hE4.mono FS_RdS).mono RdS_RS)) (fun x hx => ?_)
          · have : l' = [] := List.eq_nil_of_length_eq_zero (by have : ([cdD D i] : List Nat).length = 1 := rfl; omega)
            rw [this, ← hAr]
            exact hA0
          · rw [← hAr]
            refine lmin hD hi (r := []) (Q := fun l => ¬ A l) (fun i' g1 _ r' g2 g3 => ?_) (fun r' g1 g2 => ?_)
            · rw [List.eq_nil_of_length_eq_zero g2]
              exact hB i' g1
            · rw [List.eq_nil_of_length_eq_zero g1] at g2
              exact absurd g2 (fun z => z)
          · have hx : x < 1 := hx
            rw [show x = 0 by omega, e20, vu_same, vu_same]
            rfl
        · simp only [kI_some, kL_some, kR_some, kV_none, ne_eq, not_true_eq_false, not_false_eq_true, true_implies, false_implies, implies_true, true_and, and_true, ab_z01, or_true, true_or, reduceCtorEq, Option.some.injEq, Int.reduceEq, Int.reduceNe, Int.reduceLT, Int.reduceLE, Int.reduceNeg, Int.reduceAdd, Int.reduceSub, Int.reduceMul, Nat.reduceEqDiff, Nat.reduceAdd, Nat.reduceMul, Int.reduceToNat, ↓reduceIte]
          rw [vu_ne (by decide), e0, ← hAr] at a
          refine ⟨i3 (by omega) (by omega), ih sc4 ar4 ((hE.ar (by decide)).tr (hE4.mono FS_RdS)) (fun i' h1 => ?_)⟩
          by_cases q : i' < i
          · exact hB i' q
          · rw [show i' = i by omega]
            exact a
  simp only [mCV, kI_some, kL_some, kR_some, kV_none, vu_app, mgR_0, mgR_3, mgR_12, mgR_13, mgR_14, mgR_16, mgR_17, mgR_18, mgR_19, mgR_20, mgR_21, mgR_2, mgR_7, mgI_1, mgI_4, mgI_5, mgI_6, mgI_8, mgI_9, mgI_10, mgI_11, mgI_15, mgI_22, mpI_1, mpI_4, mpI_5, mpI_6, mpI_8, mpI_9, mpI_10, mpI_11, mpI_15, mpI_22, mlI_0 hA, mlI_3 hA, mlI_12 hA, mlI_13 hA, mlI_14 hA, mlI_16 hA, mlI_17 hA, mlI_18 hA, mlI_19 hA, mlI_20 hA, mlI_21 hA, msI_0 hA, msI_3 hA, msI_12 hA, msI_13 hA, msI_14 hA, msI_16 hA, msI_17 hA, msI_18 hA, msI_19 hA, msI_20 hA, msI_21 hA, mlZ_2 hA, mlZ_7 hA, msZ_2 hA, msZ_7 hA, kI_some, kL_some, kR_some, kV_none, ne_eq, not_true_eq_false, not_false_eq_true, true_implies, false_implies, implies_true, true_and, and_true, ab_z01, or_true, true_or, reduceCtorEq, Option.some.injEq, Int.reduceEq, Int.reduceNe, Int.reduceLT, Int.reduceLE, Int.reduceNeg, Int.reduceAdd, Int.reduceSub, Int.reduceMul, Nat.reduceEqDiff, Nat.reduceAdd, Nat.reduceMul, Int.reduceToNat, ↓reduceIte, h22]
  rw [show 4 * (n : Int) = ((4 * n : Nat) : Int) by omega]
  repeat (first | refine And.intro (by omega) ?_ | refine And.intro (i3 (by omega) (by omega)) ?_)
  refine mc_arrives hA (l := []) (n := 0) (by rw [e1]; exact hw) (by rw [e1]; exact hk) (by rw [e1]; exact he) ht rfl (by decide) (fun j hj => absurd hj (by simp)) (fun a sc4 ar4 hE4 => ?_) (fun a sc4 ar4 hE4 => ?_)
  · simp only [kI_some, kL_some, kR_some, kV_none, ne_eq, not_true_eq_false, not_false_eq_true, true_implies, false_implies, implies_true, true_and, and_true, ab_z01, or_true, true_or, reduceCtorEq, Option.some.injEq, Int.reduceEq, Int.reduceNe, Int.reduceLT, Int.reduceLE, Int.reduceNeg, Int.reduceAdd, Int.reduceSub, Int.reduceMul, Nat.reduceEqDiff, Nat.reduceAdd, Nat.reduceMul, Int.reduceToNat, ↓reduceIte]
    rw [e1] at a
    refine kk 0 [] (Or.inr ⟨rfl, by simp, trivial, a, fun l' g1 => absurd g1 (by simp), fun l' g1 g2 => ?_⟩) sc4 ar4 (hE1.tr ((hE4.mono FS_RdS).mono RdS_RS)) (fun j hj => absurd hj (by simp))
    rw [List.eq_nil_of_length_eq_zero g1] at g2
    exact absurd g2 (fun z => z)
  · simp only [kI_some, kL_some, kR_some, kV_none, ne_eq, not_true_eq_false, not_false_eq_true, true_implies, false_implies, implies_true, true_and, and_true, ab_z01, or_true, true_or, reduceCtorEq, Option.some.injEq, Int.reduceEq, Int.reduceNe, Int.reduceLT, Int.reduceLE, Int.reduceNeg, Int.reduceAdd, Int.reduceSub, Int.reduceMul, Nat.reduceEqDiff, Nat.reduceAdd, Nat.reduceMul, Int.reduceToNat, ↓reduceIte]
    rw [e1, ← hAr] at a
    exact F30 a sc4 ar4 (hE4.mono FS_RdS)
/-- what road answers -/
def qRoad (w : Nat → Int) (k t e g j r : Int) : Prop := (¬ ((0 ≤ k ∧ k < w 1) ∧ (0 ≤ e ∧ e < w 1) ∧ tg t ∧ tg g) ∧ r = -2) ∨ ((0 ≤ k ∧ k < w 1) ∧ (0 ≤ e ∧ e < w 1) ∧ tg t ∧ tg g ∧ ((j < -1 ∧ r = -3) ∨ (-1 ≤ j ∧ ∃ n l, isRd w k.toNat t e.toNat g n l ∧ r = if j = -1 then n else if n ≤ j then -1 else ((l.getD j.toNat 0 : Nat) : Int))))
theorem qRoad_uniq {w : Nat → Int} {k t e g j r r' : Int} (h : qRoad w k t e g j r) (h' : qRoad w k t e g j r') : r = r' := by
  rcases h with ⟨a, b⟩ | ⟨a1, a2, a3, a4, a5⟩
  · rcases h' with ⟨c, d⟩ | ⟨c1, c2, c3, c4, c5⟩
    · rw [b, d]
    · exact absurd ⟨c1, c2, c3, c4⟩ a
  · rcases h' with ⟨c, d⟩ | ⟨c1, c2, c3, c4, c5⟩
    · exact absurd ⟨a1, a2, a3, a4⟩ c
    · rcases a5 with ⟨x1, x2⟩ | ⟨x1, n, l, x2, x3⟩
      · rcases c5 with ⟨y1, y2⟩ | ⟨y1, n', l', y2, y3⟩
        · rw [x2, y2]
        · omega
      · rcases c5 with ⟨y1, y2⟩ | ⟨y1, n', l', y2, y3⟩
        · omega
        · obtain ⟨z1, z2⟩ := isRd_uniq x2 y2
          rw [x3, y3, z1, z2]
set_option maxRecDepth 100000 in
set_option maxHeartbeats 4000000 in
theorem mc_road {d : Nat} {h : AbH} {m : Nat} {ad : Nat → Nat} {sc : Nat → Int} {ar : Nat → Nat → Int} {K : Option AbV → AbH → Prop} (hA : mA ad) {k t e g j : Int} (hw : wV (ar 0)) (kk : ∀ r, qRoad (ar 0) k t e g j r → ∀ sc' ar', mE RS sc ar sc' ar' → K (some (vI r)) (mH h m ad sc' ar')) : Vm (d + 8) m_X10_road [vR (some m), vI k, vI t, vI e, vI g, vI j] (mH h m ad sc ar) K := by
  obtain ⟨n1, n2⟩ := hw.now
  have bad : ¬ ((0 ≤ k ∧ k < ar 0 1) ∧ (0 ≤ e ∧ e < ar 0 1) ∧ tg t ∧ tg g) → K (some (vI (-2))) (mH h m ad sc ar) := fun c => kk _ (Or.inl ⟨c, rfl⟩) _ _ mE.rf
  refine Vm.intro rfl (Nat.le_of_ble_eq_true rfl) (fun _ => B_X10_road_0 ?_)
  simp only [mCV]
  refine mc_isLoan hA hw.1 (fun c1 => ?_) (fun c1 => ?_) <;> simp only [mCV, kI_some, kL_some, kR_some, kV_none, vu_app, mgR_0, mgR_3, mgR_12, mgR_13, mgR_14, mgR_16, mgR_17, mgR_18, mgR_19, mgR_20, mgR_21, mgR_2, mgR_7, mgI_1, mgI_4, mgI_5, mgI_6, mgI_8, mgI_9, mgI_10, mgI_11, mgI_15, mgI_22, mpI_1, mpI_4, mpI_5, mpI_6, mpI_8, mpI_9, mpI_10, mpI_11, mpI_15, mpI_22, mlI_0 hA, mlI_3 hA, mlI_12 hA, mlI_13 hA, mlI_14 hA, mlI_16 hA, mlI_17 hA, mlI_18 hA, mlI_19 hA, mlI_20 hA, mlI_21 hA, msI_0 hA, msI_3 hA, msI_12 hA, msI_13 hA, msI_14 hA, msI_16 hA, msI_17 hA, msI_18 hA, msI_19 hA, msI_20 hA, msI_21 hA, mlZ_2 hA, mlZ_7 hA, msZ_2 hA, msZ_7 hA, kI_some, kL_some, kR_some, kV_none, ne_eq, not_true_eq_false, not_false_eq_true, true_implies, false_implies, implies_true, true_and, and_true, ab_z01, or_true, true_or, reduceCtorEq, Option.some.injEq, Int.reduceEq, Int.reduceNe, Int.reduceLT, Int.reduceLE, Int.reduceNeg, Int.reduceAdd, Int.reduceSub, Int.reduceMul, Nat.reduceEqDiff, Nat.reduceAdd, Nat.reduceMul, Int.reduceToNat, ↓reduceIte]
  · refine mc_isLoan hA hw.1 (fun c2 => ?_) (fun c2 => ?_) <;> simp only [mCV, kI_some, kL_some, kR_some, kV_none, vu_app, mgR_0, mgR_3, mgR_12, mgR_13, mgR_14, mgR_16, mgR_17, mgR_18, mgR_19, mgR_20, mgR_21, mgR_2, mgR_7, mgI_1, mgI_4, mgI_5, mgI_6, mgI_8, mgI_9, mgI_10, mgI_11, mgI_15, mgI_22, mpI_1, mpI_4, mpI_5, mpI_6, mpI_8, mpI_9, mpI_10, mpI_11, mpI_15, mpI_22, mlI_0 hA, mlI_3 hA, mlI_12 hA, mlI_13 hA, mlI_14 hA, mlI_16 hA, mlI_17 hA, mlI_18 hA, mlI_19 hA, mlI_20 hA, mlI_21 hA, msI_0 hA, msI_3 hA, msI_12 hA, msI_13 hA, msI_14 hA, msI_16 hA, msI_17 hA, msI_18 hA, msI_19 hA, msI_20 hA, msI_21 hA, mlZ_2 hA, mlZ_7 hA, msZ_2 hA, msZ_7 hA, kI_some, kL_some, kR_some, kV_none, ne_eq, not_true_eq_false, not_false_eq_true, true_implies, false_implies, implies_true, true_and, and_true, ab_z01, or_true, true_or, reduceCtorEq, Option.some.injEq, Int.reduceEq, Int.reduceNe, Int.reduceLT, Int.reduceLE, Int.reduceNeg, Int.reduceAdd, Int.reduceSub, Int.reduceMul, Nat.reduceEqDiff, Nat.reduceAdd, Nat.reduceMul, Int.reduceToNat, ↓reduceIte]
    · refine mc_isTongue (fun c3 => ?_) (fun c3 => ?_) <;> simp only [mCV, kI_some, kL_some, kR_some, kV_none, vu_app, mgR_0, mgR_3, mgR_12, mgR_13, mgR_14, mgR_16, mgR_17, mgR_18, mgR_19, mgR_20, mgR_21, mgR_2, mgR_7, mgI_1, mgI_4, mgI_5, mgI_6, mgI_8, mgI_9, mgI_10, mgI_11, mgI_15, mgI_22, mpI_1, mpI_4, mpI_5, mpI_6, mpI_8, mpI_9, mpI_10, mpI_11, mpI_15, mpI_22, mlI_0 hA, mlI_3 hA, mlI_12 hA, mlI_13 hA, mlI_14 hA, mlI_16 hA, mlI_17 hA, mlI_18 hA, mlI_19 hA, mlI_20 hA, mlI_21 hA, msI_0 hA, msI_3 hA, msI_12 hA, msI_13 hA, msI_14 hA, msI_16 hA, msI_17 hA, msI_18 hA, msI_19 hA, msI_20 hA, msI_21 hA, mlZ_2 hA, mlZ_7 hA, msZ_2 hA, msZ_7 hA, kI_some, kL_some, kR_some, kV_none, ne_eq, not_true_eq_false, not_false_eq_true, true_implies, false_implies, implies_true, true_and, and_true, ab_z01, or_true, true_or, reduceCtorEq, Option.some.injEq, Int.reduceEq, Int.reduceNe, Int.reduceLT, Int.reduceLE, Int.reduceNeg, Int.reduceAdd, Int.reduceSub, Int.reduceMul, Nat.reduceEqDiff, Nat.reduceAdd, Nat.reduceMul, Int.reduceToNat, ↓reduceIte]
      · refine mc_isTongue (fun c4 => ?_) (fun c4 => ?_) <;> simp only [mCV, kI_some, kL_some, kR_some, kV_none, vu_app, mgR_0, mgR_3, mgR_12, mgR_13, mgR_14, mgR_16, mgR_17, mgR_18, mgR_19, mgR_20, mgR_21, mgR_2, mgR_7, mgI_1, mgI_4, mgI_5, mgI_6, mgI_8, mgI_9, mgI_10, mgI_11, mgI_15, mgI_22, mpI_1, mpI_4, mpI_5, mpI_6, mpI_8, mpI_9, mpI_10, mpI_11, mpI_15, mpI_22, mlI_0 hA, mlI_3 hA, mlI_12 hA, mlI_13 hA, mlI_14 hA, mlI_16 hA, mlI_17 hA, mlI_18 hA, mlI_19 hA, mlI_20 hA, mlI_21 hA, msI_0 hA, msI_3 hA, msI_12 hA, msI_13 hA, msI_14 hA, msI_16 hA, msI_17 hA, msI_18 hA, msI_19 hA, msI_20 hA, msI_21 hA, mlZ_2 hA, mlZ_7 hA, msZ_2 hA, msZ_7 hA, kI_some, kL_some, kR_some, kV_none, ne_eq, not_true_eq_false, not_false_eq_true, true_implies, false_implies, implies_true, true_and, and_true, ab_z01, or_true, true_or, reduceCtorEq, Option.some.injEq, Int.reduceEq, Int.reduceNe, Int.reduceLT, Int.reduceLE, Int.reduceNeg, Int.reduceAdd, Int.reduceSub, Int.reduceMul, Nat.reduceEqDiff, Nat.reduceAdd, Nat.reduceMul, Int.reduceToNat, ↓reduceIte]
        · refine ⟨fun c5 => ?_, fun c5 => kk _ (Or.inr ⟨c1, c2, c3, c4, Or.inl ⟨by omega, rfl⟩⟩) _ _ mE.rf⟩
          obtain ⟨k, rfl⟩ := Int.eq_ofNat_of_zero_le c1.1
          obtain ⟨e, rfl⟩ := Int.eq_ofNat_of_zero_le c2.1
          obtain ⟨g, rfl⟩ := Int.eq_ofNat_of_zero_le c4.1
          have hg : g ≤ 3 := by have := c4.2; omega
          refine mc_roadOf hA hw (by omega) (by omega) c3 hg (fun r l hr sc' ar' hE hs => ?_)
          simp only [mCV, kI_some, kL_some, kR_some, kV_none, vu_app, mgR_0, mgR_3, mgR_12, mgR_13, mgR_14, mgR_16, mgR_17, mgR_18, mgR_19, mgR_20, mgR_21, mgR_2, mgR_7, mgI_1, mgI_4, mgI_5, mgI_6, mgI_8, mgI_9, mgI_10, mgI_11, mgI_15, mgI_22, mpI_1, mpI_4, mpI_5, mpI_6, mpI_8, mpI_9, mpI_10, mpI_11, mpI_15, mpI_22, mlI_0 hA, mlI_3 hA, mlI_12 hA, mlI_13 hA, mlI_14 hA, mlI_16 hA, mlI_17 hA, mlI_18 hA, mlI_19 hA, mlI_20 hA, mlI_21 hA, msI_0 hA, msI_3 hA, msI_12 hA, msI_13 hA, msI_14 hA, msI_16 hA, msI_17 hA, msI_18 hA, msI_19 hA, msI_20 hA, msI_21 hA, mlZ_2 hA, mlZ_7 hA, msZ_2 hA, msZ_7 hA, kI_some, kL_some, kR_some, kV_none, ne_eq, not_true_eq_false, not_false_eq_true, true_implies, false_implies, implies_true, true_and, and_true, ab_z01, or_true, true_or, reduceCtorEq, Option.some.injEq, Int.reduceEq, Int.reduceNe, Int.reduceLT, Int.reduceLE, Int.reduceNeg, Int.reduceAdd, Int.reduceSub, Int.reduceMul, Nat.reduceEqDiff, Nat.reduceAdd, Nat.reduceMul, Int.reduceToNat, ↓reduceIte]
          have hlen : (r = -1 ∧ l = []) ∨ (r = (l.length : Int) ∧ l.length ≤ 3) := by
            rcases hr with ⟨a, b, _⟩ | ⟨a, b, _⟩
            · exact Or.inl ⟨a, b⟩
            · exact Or.inr ⟨a, b⟩
          have go : ∀ v, v = (if j = -1 then r else if r ≤ j then -1 else ((l.getD j.toNat 0 : Nat) : Int)) → K (some (vI v)) (mH h m ad sc' ar') := fun v hv => kk v (Or.inr ⟨c1, c2, c3, c4, Or.inr ⟨c5, r, l, hr, hv⟩⟩) sc' ar' hE
          refine ⟨fun c6 => ⟨fun c7 => go _ (by rw [if_neg c6, if_pos c7]), fun c7 => ?_⟩, fun c6 => go _ (by rw [if_pos (by simpa using c6)])⟩
          have hj : j.toNat < l.length := by omega
          repeat (first | refine And.intro (by omega) ?_ | refine And.intro (i3 (by omega) (by omega)) ?_)
          exact go _ (by rw [if_neg c6, if_neg c7]; exact hs _ hj)
        · exact bad (fun z => c4 z.2.2.2)
      · exact bad (fun z => c3 z.2.2.1)
    · exact bad (fun z => c2 z.2.1)
  · exact bad (fun z => c1 z.1)
