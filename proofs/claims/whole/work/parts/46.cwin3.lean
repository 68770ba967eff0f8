theorem W3_P {P : Nat → Prop} {a b c : Nat} (ha : P a) (hb : P b) (hc : P c) : ∀ q, W3 a b c q → P q := fun q h => by
  rcases h with h | h | h
  · rw [h]; exact ha
  · rw [h]; exact hb
  · rw [h]; exact hc
set_option maxRecDepth 100000 in
set_option maxHeartbeats 4000000 in
theorem cc_wof {d : Nat} {h : AbH} {K : Option AbV → AbH → Prop} {P : Nat → Prop} {a b k aw wf wl : Nat} {w : Nat → Int} {n0 : Int} {F0 G0 : Nat → Int} (cw : CW P h a w) (hk : k < no w) (hb : hpO h b = some (2, loF w k)) (hbP : ¬ P b) (wn : WN h aw wf wl n0 F0 G0) (hP : ∀ q, W3 aw wf wl q → P q) (kk : ∀ h' (n : Nat) A B, WN h' aw wf wl (n : Int) A B → Xt (W3 aw wf wl) h h' → n = sN (fitW w k) 100 → n ≤ 17 → (∀ j, j < n → A j = winB (fitW w k) j ∧ B j = winE (fitW w k) j) → (0 < n → B (n - 1) = lstF (fitW w k)) → K (some (vR (some aw))) h') : Vm (d + 5) m_X7_of [vR (some aw), vR (some a), vR (some b)] h K := by
  have hw := cw.1
  obtain ⟨n1, n2⟩ := hw.nlw
  obtain ⟨m1, m2⟩ := hw.now
  have hlV := hw.2.2.2.2 k hk
  obtain ⟨l1, l2, l3, l4, l5, l6, l7⟩ := id hlV
  have l1a := l1.1
  have l1b := l1.2
  have l2a := l2.1
  have l2b := l2.2
  obtain ⟨F, hF⟩ : ∃ F, F = fitW w k := ⟨_, rfl⟩
  rw [← hF] at kk
  have hbW : ¬ W3 aw wf wl b := fun z => hbP (hP b z)
  obtain ⟨p, hp⟩ : ∃ p, p = 4 * (lo w k 0).toNat + (lo w k 1).toNat := ⟨_, rfl⟩
  have hp16 : p < 16 := by omega
  obtain ⟨u, hu⟩ : ∃ u, u = w (98 + 2 * p) := ⟨_, rfl⟩
  obtain ⟨v, hv⟩ : ∃ v, v = w (98 + 2 * p + 1) := ⟨_, rfl⟩
  have hm : meetV u v := by rw [hu, hv]; exact hw.2.2.2.1 p hp16
  have hFi : ∀ dd : Nat, F dd = true ↔ dd ≤ 99 ∧ (0 < u ∧ u - 1 ≤ (dd : Int) ∧ (dd : Int) ≤ v) ∧ borr w (lo w k 0) (lo w k 1) (dd : Int) (word w k) = wend w k := by
    intro dd
    rw [hF, fitW_iff, hu, hv, hp]
    exact Iff.rfl
  have F100 : F 100 = false := by rw [hF]; exact fit_100 (by decide)
  -- behind the loop
  have fin : ∀ h' (n : Nat) A B (e : Nat), e ≤ 100 → Xt (W3 aw wf wl) h h' → WN h' aw wf wl (n : Int) A B → n ≤ 17 → wSt F e n A B → (∀ i, e ≤ i → i < 100 → ¬ F i = true) → K (some (vR (some aw))) h' := by
    intro h' n A B e he hX hW hn hS hno
    obtain ⟨r1, r2, r3⟩ := wSt_end (wSt_no hS he hno) F100
    exact kk h' n A B hW hX r1 hn r2 r3
  obtain ⟨c1, c2, c3, c4⟩ := id wn
  refine Vm.intro rfl (Nat.le_of_ble_eq_true rfl) (fun _ => B_X7_of_0 ?_)
  refine p_i c1 (by show 2 < 3; decide) ?_
  have X1 : Xt (W3 aw wf wl) h (hsO h aw (6, [vR (some wf), vR (some wl), vI n0].set 2 (vI 0))) := xt_O (Or.inl (Or.inl rfl))
  have W1 : WN (hsO h aw (6, [vR (some wf), vR (some wl), vI n0].set 2 (vI 0))) aw wf wl ((0 : Nat) : Int) F0 G0 := ⟨by rw [hO_O, if_pos rfl]; rfl, c2, c3, c4⟩
  obtain ⟨h1, hh1⟩ : ∃ h1, h1 = hsO h aw (6, [vR (some wf), vR (some wl), vI n0].set 2 (vI 0)) := ⟨_, rfl⟩
  rw [← hh1] at X1 W1 ⊢
  have b1 : hpO h1 b = some (2, loF w k) := X1.O hbW hb
  obtain ⟨-, al, ao, af, ae, g1, g2, ff, fl, cx, -⟩ := cw.mv (X1.mono hP)
  refine gI_i b1 rfl (gI_i b1 rfl ?_)
  refine cc_pairOf (fun q => ?_) (fun q => absurd ⟨l1, l2, l3⟩ q)
  simp only [kI_some, kL_some, kR_some, kV_none, ne_eq, not_true_eq_false, not_false_eq_true, true_implies, false_implies, implies_true, true_and, and_true, ab_z01, or_true, true_or, reduceCtorEq, Option.some.injEq, Int.reduceEq, Int.reduceNe, Int.reduceLT, Int.reduceLE, Int.reduceNeg, Int.reduceAdd, Int.reduceSub, Int.reduceMul, Nat.reduceEqDiff, Nat.reduceAdd, Nat.reduceMul, Int.reduceToNat, ↓reduceIte]
  have hpI : (lo w k 0 * 4 + lo w k 1).toNat = p := by omega
  have e1 : fO w (lo w k 0 * 4 + lo w k 1) = u - 1 := by unfold fO; rw [if_pos (by omega), hpI, hu]
  have e2 : lO w (lo w k 0 * 4 + lo w k 1) = if u = 0 then -1 else v := by unfold lO; rw [if_pos (by omega), hpI, hu, hv]
  refine cv_i cx.1 (cc_firstOf cx ?_)
  simp only [kI_some, kL_some, kR_some, kV_none, ne_eq, not_true_eq_false, not_false_eq_true, true_implies, false_implies, implies_true, true_and, and_true, ab_z01, or_true, true_or, reduceCtorEq, Option.some.injEq, Int.reduceEq, Int.reduceNe, Int.reduceLT, Int.reduceLE, Int.reduceNeg, Int.reduceAdd, Int.reduceSub, Int.reduceMul, Nat.reduceEqDiff, Nat.reduceAdd, Nat.reduceMul, Int.reduceToNat, ↓reduceIte]
  refine cv_i cx.1 (cc_lastOf cx ?_)
  simp only [kI_some, kL_some, kR_some, kV_none, ne_eq, not_true_eq_false, not_false_eq_true, true_implies, false_implies, implies_true, true_and, and_true, ab_z01, or_true, true_or, reduceCtorEq, Option.some.injEq, Int.reduceEq, Int.reduceNe, Int.reduceLT, Int.reduceLE, Int.reduceNeg, Int.reduceAdd, Int.reduceSub, Int.reduceMul, Nat.reduceEqDiff, Nat.reduceAdd, Nat.reduceMul, Int.reduceToNat, ↓reduceIte]
  rw [e1, e2]
  refine ⟨i3 (by rcases hm with z | z; rw [if_pos z.1]; decide; rw [if_neg (by omega)]; omega) (by rcases hm with z | z; rw [if_pos z.1]; decide; rw [if_neg (by omega)]; omega), fun q => ?_, fun q => ?_⟩
  · have hm : 1 ≤ u ∧ u ≤ 100 ∧ u - 1 ≤ v ∧ v ≤ 99 := by rcases hm with z | z; omega; exact z
    rw [if_neg (by omega)]
    obtain ⟨s0, hs0⟩ := Int.eq_ofNat_of_zero_le (show 0 ≤ u - 1 by omega)
    obtain ⟨e, hE⟩ := Int.eq_ofNat_of_zero_le (show 0 ≤ v + 1 by omega)
    have hse : s0 < e := by omega
    have he100 : e ≤ 100 := by omega
    have Fout : ∀ i, (i < s0 ∨ e ≤ i) → ¬ F i = true := fun i hi z => by
      have := ((hFi i).mp z).2.1
      omega
    rw [hs0, hE]
    have S0 : wSt F s0 0 F0 G0 := wSt_no (s := 0) ⟨rfl, fun j hj => absurd hj (by omega)⟩ (Nat.zero_le _) (fun i _ h2 => Fout i (Or.inl h2))
    refine lp_up (P := fun i => ∀ h' (n : Nat) A B (s : Nat), Xt (W3 aw wf wl) h h' → WN h' aw wf wl (n : Int) A B → wSt F s n A B → n ≤ i → s0 ≤ s → s ≤ e → (∀ j, j < nl w → j < i → lw w j 1 ≤ (s : Int) ∨ s = e) → (nl w < i → s = e) → Vx (d + 5) m_X7_of 0 0 44 [some (vR (some aw)), some (vR (some a)), some (vR (some b)), some (vI (lo w k 0 * 4 + lo w k 1)), some (vI (s : Int)), some (vI (e : Int)), some (vI (i : Int)), none, none] [] h' K) (n := 17) ?_ ?_ 0 (by omega) h1 0 F0 G0 s0 X1 W1 S0 (Nat.le_refl _) (Nat.le_refl _) (by omega) (fun j _ hj => absurd hj (by omega)) (fun z => absurd z (by omega))
    · intro h' n A B s hX hW hS hn hs1 hs2 hj hl
      have hse' : s = e := hl (by omega)
      refine B_X7_of_44 ⟨fun _ => ?_, fun z => absurd (by decide) z⟩
      exact fin h' n A B s (by omega) hX hW hn hS (fun i h1 _ => Fout i (Or.inr (by omega)))
    · intro i hi ih h' n A B s hX hW hS hn hs1 hs2 hj hl
      refine B_X7_of_44 ⟨fun z => absurd z (by omega), fun _ => ?_⟩
      obtain ⟨-, al, ao, af, ae, g1, g2, ff, fl, cx, -⟩ := cw.mv (hX.mono hP)
      have b2 : hpO h' b = some (2, loF w k) := hX.O hbW hb
      -- one stretch without a law
      have body : ∀ (N : Int) (y : Nat), N = (y : Int) → s < y → y ≤ e → (∀ j, j < nl w → ¬ j < i → (y : Int) ≤ lw w j 1) → (∀ j, j < nl w → j < i + 1 → lw w j 1 ≤ (y : Int) ∨ y = e) → (nl w < i + 1 → y = e) → wpGL h' (some b) 2 2 (fun n4 => wpGI h' (some b) 2 0 (fun n5 => wpGI h' (some b) 2 1 (fun n6 => wpCV h' (some a) 7 (fun b15 => Vm (d + 4) m_X8_borrowed [vR (some b15), vL n4, vI n5, vI n6, vI (s : Int)] h' (kL (fun n8 h7 => wpGL h7 (some b) 2 3 (fun n9 => ((n8 ≠ n9 → in32 ((i : Int) + 1) ∧ Vx (d + 5) m_X7_of 0 0 44 [some (vR (some aw)), some (vR (some a)), some (vR (some b)), some (vI (lo w k 0 * 4 + lo w k 1)), some (vI N), some (vI (e : Int)), some (vI ((i : Int) + 1)), none, none] [] h7 K) ∧ (¬ (n8 ≠ n9) → in32 (N - 1) ∧ wpCV h7 (some aw) 6 (fun b14 => Vm (d + 4) m_X7_add [vR (some b14), vI (s : Int), vI (N - 1)] h7 (kV (fun h12 => in32 ((i : Int) + 1) ∧ Vx (d + 5) m_X7_of 0 0 44 [some (vR (some aw)), some (vR (some a)), some (vR (some b)), some (vI (lo w k 0 * 4 + lo w k 1)), some (vI N), some (vI (e : Int)), some (vI ((i : Int) + 1)), none, none] [] h12 K)))))))))))) := by
        intro N y hN hsy hye hlate hj' hl'
        have cst : ∀ dd : Nat, s ≤ dd → dd < y → (F dd = true ↔ borr w (lo w k 0) (lo w k 1) (s : Int) (word w k) = wend w k) := by
          intro dd d1 d2
          have hb' : borr w (lo w k 0) (lo w k 1) (dd : Int) (word w k) = borr w (lo w k 0) (lo w k 1) (s : Int) (word w k) := borr_at (fun j hjn => by
            by_cases c : j < i
            · have := hj j hjn c
              omega
            · have := hlate j hjn c
              omega)
          rw [hFi, hb']
          exact ⟨fun z => z.2.2, fun z => ⟨by omega, by omega, z⟩⟩
        refine gL_i b2 rfl (gI_i b2 rfl (gI_i b2 rfl (cv_i cx.1 ?_)))
        refine cc_borrowed hw cx (word_V hlV) ?_
        simp only [kI_some, kL_some, kR_some, kV_none, ne_eq, not_true_eq_false, not_false_eq_true, true_implies, false_implies, implies_true, true_and, and_true, ab_z01, or_true, true_or, reduceCtorEq, Option.some.injEq, Int.reduceEq, Int.reduceNe, Int.reduceLT, Int.reduceLE, Int.reduceNeg, Int.reduceAdd, Int.reduceSub, Int.reduceMul, Nat.reduceEqDiff, Nat.reduceAdd, Nat.reduceMul, Int.reduceToNat, ↓reduceIte]
        refine gL_i b2 rfl ⟨fun z => ⟨i3 (by omega) (by omega), ?_⟩, fun z => ⟨i3 (by omega) (by omega), ?_⟩⟩
        · rw [hN]
          refine ih h' n A B y hX hW (wSt_no hS (by omega) (fun dd d1 d2 q => z (by rw [(cst dd d1 d2).mp q]))) (by omega) (by omega) hye hj' hl'
        · have hB : borr w (lo w k 0) (lo w k 1) (s : Int) (word w k) = wend w k := enc_inj _ _ (borr_V hw.L (word_V hlV)) (wend_V hlV) (by have := Classical.byContradiction z; omega)
          have hT : ∀ dd, s ≤ dd → dd < y → F dd = true := fun dd d1 d2 => (cst dd d1 d2).mpr hB
          refine cv_i hW.1 ?_
          refine cc_wadd hW (by omega) (by omega) (fun h2 n' A' B' hW2 hX2 hr => ?_)
          simp only [kI_some, kL_some, kR_some, kV_none, ne_eq, not_true_eq_false, not_false_eq_true, true_implies, false_implies, implies_true, true_and, and_true, ab_z01, or_true, true_or, reduceCtorEq, Option.some.injEq, Int.reduceEq, Int.reduceNe, Int.reduceLT, Int.reduceLE, Int.reduceNeg, Int.reduceAdd, Int.reduceSub, Int.reduceMul, Nat.reduceEqDiff, Nat.reduceAdd, Nat.reduceMul, Int.reduceToNat, ↓reduceIte]
          refine ⟨i3 (by omega) (by omega), ?_⟩
          rw [hN]
          have hhad := wSt_had hS
          rcases hr with ⟨r1, r2, r3, r4, r5⟩ | ⟨r1, r2, r3, r4⟩
          · have q := wSt_ext hS (hhad.mp ⟨r1, r2⟩) hsy hT
            rw [hN] at r5
            rw [← r5, ← r4] at q
            rw [r3] at hW2
            exact ih h2 n A' B' y (hX.tr hX2) hW2 q.1 (by omega) (by omega) hye hj' hl'
          · have q := wSt_new hS (fun z => r1 (hhad.mpr z)) hsy hT
            rw [hN] at r4
            rw [← r4, ← r3] at q
            rw [r2] at hW2
            exact ih h2 (n + 1) A' B' y (hX.tr hX2) hW2 q (by omega) (by omega) hye hj' hl'
      have skip : (∀ j, j < nl w → j < i + 1 → lw w j 1 ≤ (s : Int) ∨ s = e) → (nl w < i + 1 → s = e) → in32 ((i : Int) + 1) ∧ Vx (d + 5) m_X7_of 0 0 44 [some (vR (some aw)), some (vR (some a)), some (vR (some b)), some (vI (lo w k 0 * 4 + lo w k 1)), some (vI (s : Int)), some (vI (e : Int)), some (vI ((i : Int) + 1)), none, none] [] h' K := fun z1 z2 => ⟨i3 (by omega) (by omega), ih h' n A B s hX hW hS (by omega) hs1 hs2 z1 z2⟩
      refine cv_i cx.1 ?_
      refine cc_lawAt hw cx (fun ki hki hkl lb _ hlb _ => ?_) (fun z => ?_) <;> simp only [kI_some, kL_some, kR_some, kV_none, ne_eq, not_true_eq_false, not_false_eq_true, true_implies, false_implies, implies_true, true_and, and_true, ab_z01, or_true, true_or, reduceCtorEq, Option.some.injEq, Int.reduceEq, Int.reduceNe, Int.reduceLT, Int.reduceLE, Int.reduceNeg, Int.reduceAdd, Int.reduceSub, Int.reduceMul, Nat.reduceEqDiff, Nat.reduceAdd, Nat.reduceMul, Int.reduceToNat, ↓reduceIte]
      · have hki : ki = i := by omega
        rw [hki] at hlb hkl
        have hmono := fun j (hjn : j < nl w) (hji : i ≤ j) => lw_mono hw j i hji hjn
        have hdv := (hw.2.1 i hkl).2.1
        refine gI_i hlb rfl ⟨fun z => ?_, fun z => ?_⟩
        · by_cases c : (e : Int) < lw w i 1
          · rw [if_pos c] at z ⊢
            refine body (e : Int) e rfl (by omega) (Nat.le_refl _) (fun j hjn hji => by have := hmono j hjn (by omega); omega) (fun j _ _ => Or.inr rfl) (fun _ => rfl)
          · rw [if_neg c] at z ⊢
            refine body (lw w i 1) (lw w i 1).toNat (by omega) (by omega) (by omega) (fun j hjn hji => by have := hmono j hjn (by omega); omega) (fun j hjn hji => ?_) (fun z => absurd z (by omega))
            have := lw_mono hw i j (by omega) hkl
            exact Or.inl (by omega)
        · refine skip (fun j hjn hji => ?_) (fun z => absurd z (by omega))
          by_cases c : j < i
          · exact hj j hjn c
          · have ej : j = i := by omega
            rw [ej]
            by_cases c2 : (e : Int) < lw w i 1
            · rw [if_pos c2] at z
              exact Or.inr (by omega)
            · rw [if_neg c2] at z
              exact Or.inl (by omega)
      · refine ⟨fun z2 => ?_, fun z2 => ?_⟩
        · exact body (e : Int) e rfl (by omega) (Nat.le_refl _) (fun j hjn hji => by omega) (fun j _ _ => Or.inr rfl) (fun _ => rfl)
        · exact skip (fun j _ _ => Or.inr (by omega)) (fun _ => by omega)
  · have hu0 : u = 0 := by have := Classical.byContradiction q; omega
    refine fin h1 0 F0 G0 0 (by decide) X1 W1 (by decide) ⟨rfl, fun j hj => absurd hj (by omega)⟩ (fun i _ _ z => ?_)
    have := ((hFi i).mp z).2.1
    omega
