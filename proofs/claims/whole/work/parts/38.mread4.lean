theorem wrA_3 {g : Bool} {ar : Nat → Nat → Int} {a n : Nat} {T : Nat → Int} {s j : Nat} (hj : j ≠ 0) : wrA g ar a n T s j = ar j := by
  unfold wrA
  split
  · exact vu_ne hj
  · rfl
theorem wrA_0 {g : Bool} {ar : Nat → Nat → Int} {a n : Nat} {T : Nat → Int} {s : Nat} : wrA g ar a n T s 0 = if g = true then wrR (ar 0) a n T s else ar 0 := by
  unfold wrA
  split
  · exact vu_same
  · rfl
theorem pF_x {g : Bool} {w0 : Nat → Int} {sc : Nat → Int} {ar : Nat → Nat → Int} {T : Nat → Int} {L s : Nat} (ht : tk T L sc ar s) (h : g = false → ar 0 = w0) : pF g w0 s sc ar := ⟨ht.2.2.2.1, h⟩
set_option maxRecDepth 100000 in
set_option maxHeartbeats 4000000 in
theorem mc_readsLoan {d : Nat} {h : AbH} {m : Nat} {ad : Nat → Nat} {sc : Nat → Int} {ar : Nat → Nat → Int} {K : Option AbV → AbH → Prop} (hA : mA ad) {T : Nat → Int} {L s : Nat} {g : Bool} {W w0 : Nat → Int} (hT : txV T L) (ht : tk T L sc ar s) (hw : wV W) (hno : no W ≤ 11) (hp : pS g W w0 sc ar) (kf : ∀ s', psTwo T L (psLoan2 T L W) s = (none, s') → ∀ sc' ar', mE PSs sc ar sc' ar' → pF g w0 s' sc' ar' → K (some (vI 0)) (mH h m ad sc' ar')) (kk : ∀ W' s', psTwo T L (psLoan2 T L W) s = (some W', s') → ∀ sc' ar', mE PSs sc ar sc' ar' → tk T L sc' ar' s' → pS g W' w0 sc' ar' → K (some (vI 1)) (mH h m ad sc' ar')) : Vm (d + 5) m_X10_readsLoan [vR (some m)] (mH h m ad sc ar) K := by
  obtain ⟨n1, n2⟩ := hw.now
  refine Vm.intro rfl (Nat.le_of_ble_eq_true rfl) (fun _ => B_X10_readsLoan_0 ?_)
  simp only [mCV]
  refine mc_twoL (K := K) hA hT ht (md := 0) (G := psLoan2 T L W) (X := fun h => K (some (vI 0)) h) (fun s' e sc1 ar1 hE1 ht1 => ?_) (fun f t hf htt hft ke sc1 ar1 hE1 z0 z1 ht1 => ?_)
  · exact kf s' e _ _ (hE1.mono NS_PS) (pF_of (hp.mv hE1) ht1)
  rw [ke] at kf kk
  have hp1 := hp.mv hE1
  obtain ⟨p, ep⟩ : ∃ p, p = nx T L (nx T L s) := ⟨_, rfl⟩
  rw [← ep] at kf kk ht1
  -- the base
  obtain ⟨B, hB⟩ : ∃ B, B = if g = true then no W else 0 := ⟨_, rfl⟩
  have hB11 : B ≤ 11 := by rw [hB]; split <;> omega
  -- behind the end
  have F101 : ∀ (n q r s' : Nat) sc2 ar2, (psLoan2 T L W (f : Int) (t : Int) p = (some (lonW W T (f : Int) (t : Int) p n q r), s')) → n ≤ 8 → r ≤ 10 → 1 ≤ n → (∀ i, i < n → 97 ≤ T (p + i) ∧ T (p + i) ≤ 122) → (∀ i, i < r → 97 ≤ T (q + i) ∧ T (q + i) ≤ 122) → mE PSs sc1 ar1 sc2 ar2 → (∀ j, j ∉ TS → sc2 j = sc1 j) → (∀ j, j ≠ 0 → ar2 j = ar1 j) → (ar2 0 = if g = true then wrR (wrR W (134 + 22 * no W) n T p) (142 + 22 * no W) r T q else w0) → tk T L sc2 ar2 s' → Vx (d + 5) m_X10_readsLoan 0 0 101 [some (vR (some m)), some (vI ((130 + 22 * B : Nat) : Int)), some (vI (n : Int)), some (vI (r : Int))] [] (mH h m ad sc2 ar2) K := by
    intro n q r s' sc2 ar2 hk hn hr h1n hpp hqq hE2 hsc har h0 htk
    have kk := kk _ _ hk
    have hS := wV_lon hw hno (f := (f : Int)) (t := (t : Int)) ⟨by omega, by omega⟩ ⟨by omega, by omega⟩ (by omega) ⟨h1n, hn⟩ hr hpp hqq
    have y9 : sc2 9 = W 1 := by rw [hsc 9 (by decide)]; exact hp1.2.2.1
    have y11 : sc2 11 = b2i g := by rw [hsc 11 (by decide)]; exact hp1.1
    have y8 : sc2 8 = W 0 := by rw [hsc 8 (by decide)]; exact hp1.2.1
    have y0 : ar2 12 0 = (f : Int) := by rw [har 12 (by decide)]; exact z0
    have y1 : ar2 12 1 = (t : Int) := by rw [har 12 (by decide)]; exact z1
    have l0 : lonW W T (f : Int) (t : Int) p n q r 0 = W 0 := by rw [lonW_app, if_neg (by omega), if_neg (by omega), if_neg (by omega), if_neg (by omega), if_neg (by omega), if_neg (by omega), if_neg (by omega)]
    have l1 : lonW W T (f : Int) (t : Int) p n q r 1 = W 1 + 1 := by rw [lonW_app, if_pos rfl]
    have hx : ∀ j, j < 98 → j ≠ 1 → lonW W T (f : Int) (t : Int) p n q r j = W j := fun j hj hj1 => by rw [lonW_app, if_neg hj1, if_neg (by omega), if_neg (by omega), if_neg (by omega), if_neg (by omega), if_neg (by omega), if_neg (by omega)]
    have hasE : ∀ t' d' : Int, hasL (lonW W T (f : Int) (t : Int) p n q r) t' d' (nl (lonW W T (f : Int) (t : Int) p n q r)) = hasL W t' d' (nl W) := by
      intro t' d'
      rw [hS.2.1]
      have n2 := hw.nlw.2
      apply Bool.eq_iff_iff.mpr
      rw [hasL_iff, hasL_iff]
      have a1 : ∀ i, i < nl W → lw (lonW W T (f : Int) (t : Int) p n q r) i 0 = lw W i 0 := fun i hi => hx _ (by omega) (by omega)
      have a2 : ∀ i, i < nl W → lw (lonW W T (f : Int) (t : Int) p n q r) i 1 = lw W i 1 := fun i hi => hx _ (by omega) (by omega)
      constructor
      · rintro ⟨i, hi, q⟩
        rw [a1 i hi, a2 i hi] at q
        exact ⟨i, hi, q⟩
      · rintro ⟨i, hi, q⟩
        refine ⟨i, hi, ?_⟩
        rw [a1 i hi, a2 i hi]
        exact q
    have hpn : ∀ ar', ar' 7 = ar1 7 → (ar' 0 = if g = true then lonW W T (f : Int) (t : Int) p n q r else w0) → pS g (lonW W T (f : Int) (t : Int) p n q r) w0 (va_up sc2 9 (W 1 + 1)) ar' := fun ar' h7 h0 => ⟨by rw [vu_ne (by decide)]; exact y11, by rw [vu_ne (by decide), l0]; exact y8, by rw [vu_same, l1], fun t' d' ht' hd' => by rw [hasE, h7]; exact hp1.2.2.2.1 t' d' ht' hd', h0⟩
    have E2 : mE PSs sc ar (va_up sc2 9 (W 1 + 1)) ar2 := ((hE1.mono NS_PS).tr hE2).sc (by decide)
    have tk2 : ∀ ar', ar' 3 = ar2 3 → tk T L (va_up sc2 9 (W 1 + 1)) ar' s' := fun ar' h3 => ⟨by rw [vu_ne (by decide)]; exact htk.1, h3.trans htk.2.1, htk.2.2.1, by rw [vu_ne (by decide)]; exact htk.2.2.2.1, by rw [vu_ne (by decide)]; exact htk.2.2.2.2⟩
    refine B_X10_readsLoan_101 ?_
    simp only [mCV, kI_some, kL_some, kR_some, kV_none, vu_app, mgR_0, mgR_3, mgR_12, mgR_13, mgR_14, mgR_16, mgR_17, mgR_18, mgR_19, mgR_20, mgR_21, mgR_2, mgR_7, mgI_1, mgI_4, mgI_5, mgI_6, mgI_8, mgI_9, mgI_10, mgI_11, mgI_15, mgI_22, mpI_1, mpI_4, mpI_5, mpI_6, mpI_8, mpI_9, mpI_10, mpI_11, mpI_15, mpI_22, mlI_0 hA, mlI_3 hA, mlI_12 hA, mlI_13 hA, mlI_14 hA, mlI_16 hA, mlI_17 hA, mlI_18 hA, mlI_19 hA, mlI_20 hA, mlI_21 hA, msI_0 hA, msI_3 hA, msI_12 hA, msI_13 hA, msI_14 hA, msI_16 hA, msI_17 hA, msI_18 hA, msI_19 hA, msI_20 hA, msI_21 hA, mlZ_2 hA, mlZ_7 hA, msZ_2 hA, msZ_7 hA, kI_some, kL_some, kR_some, kV_none, ne_eq, not_true_eq_false, not_false_eq_true, true_implies, false_implies, implies_true, true_and, and_true, ab_z01, or_true, true_or, reduceCtorEq, Option.some.injEq, Int.reduceEq, Int.reduceNe, Int.reduceLT, Int.reduceLE, Int.reduceNeg, Int.reduceAdd, Int.reduceSub, Int.reduceMul, Nat.reduceEqDiff, Nat.reduceAdd, Nat.reduceMul, Int.reduceToNat, ↓reduceIte, y9, y11]
    refine ⟨i3 (by omega) (by omega), ?_⟩
    cases g with
    | false =>
      refine ⟨fun _ => ?_, fun z => absurd rfl z⟩
      exact kk _ _ E2 (tk2 _ rfl) (hpn _ (har 7 (by decide)) h0)
    | true =>
      refine ⟨fun z => absurd z (by decide), fun _ => ?_⟩
      have hBn : B = no W := by rw [hB]; exact if_pos rfl
      rw [if_pos rfl] at h0
      simp only [y0, y1, vu_up, h0]
      rw [hBn]
      rw [show (((130 + 22 * no W : Nat) : Int) + 0).toNat = 130 + 22 * no W by omega, show (((130 + 22 * no W : Nat) : Int) + 1).toNat = 130 + 22 * no W + 1 by omega, show (((130 + 22 * no W : Nat) : Int) + 2).toNat = 130 + 22 * no W + 2 by omega, show (((130 + 22 * no W : Nat) : Int) + 3).toNat = 130 + 22 * no W + 3 by omega]
      have e1 : (if 1 = 130 + 22 * no W + 3 then (r : Int) else if 1 = 130 + 22 * no W + 2 then (n : Int) else if 1 = 130 + 22 * no W + 1 then (t : Int) else if 1 = 130 + 22 * no W then (f : Int) else wrR (wrR W (134 + 22 * no W) n T p) (142 + 22 * no W) r T q 1) = W 1 := by
        rw [if_neg (by omega), if_neg (by omega), if_neg (by omega), if_neg (by omega)]
        unfold wrR
        rw [if_neg (by omega), if_neg (by omega)]
      rw [e1]
      repeat (first | refine And.intro (by omega) ?_ | refine And.intro (i3 (by omega) (by omega)) ?_)
      have e : va_up (va_up (va_up (va_up (va_up (wrR (wrR W (134 + 22 * no W) n T p) (142 + 22 * no W) r T q) (130 + 22 * no W) (f : Int)) (130 + 22 * no W + 1) (t : Int)) (130 + 22 * no W + 2) (n : Int)) (130 + 22 * no W + 3) (r : Int)) 1 (W 1 + 1) = lonW W T (f : Int) (t : Int) p n q r := by
        funext j
        rw [lonW_app]
        simp only [vu_app]
        unfold wrR
        rw [show 142 + 22 * no W = 130 + 22 * no W + 12 by omega, show 134 + 22 * no W = 130 + 22 * no W + 4 by omega]
        by_cases c1 : j = 1
        · rw [if_pos c1, if_pos c1]
        · rw [if_neg c1, if_neg c1]
          by_cases c2 : j = 130 + 22 * no W
          · rw [if_neg (show ¬ j = 130 + 22 * no W + 3 by omega), if_neg (show ¬ j = 130 + 22 * no W + 2 by omega), if_neg (show ¬ j = 130 + 22 * no W + 1 by omega), if_pos c2, if_pos c2]
          · rw [if_neg c2, if_neg c2]
            by_cases c3 : j = 130 + 22 * no W + 1
            · rw [if_neg (show ¬ j = 130 + 22 * no W + 3 by omega), if_neg (show ¬ j = 130 + 22 * no W + 2 by omega), if_pos c3, if_pos c3]
            · rw [if_neg c3, if_neg c3]
              by_cases c4 : j = 130 + 22 * no W + 2
              · rw [if_neg (show ¬ j = 130 + 22 * no W + 3 by omega), if_pos c4, if_pos c4]
              · rw [if_neg c4, if_neg c4]
                by_cases c5 : j = 130 + 22 * no W + 3
                · rw [if_pos c5, if_pos c5]
                · rw [if_neg c5, if_neg c5]
                  by_cases c6 : 130 + 22 * no W + 4 ≤ j ∧ j < 130 + 22 * no W + 4 + n
                  · rw [if_neg (show ¬ (130 + 22 * no W + 12 ≤ j ∧ j < 130 + 22 * no W + 12 + r) by omega), if_pos c6, if_pos c6]
                  · rw [if_neg c6, if_neg c6]
      rw [e]
      exact kk _ _ (E2.ar (by decide)) (tk2 _ (vu_ne (by decide))) (hpn _ (by rw [vu_ne (by decide)]; exact har 7 (by decide)) (by rw [vu_same]; rfl))
  -- the forms
  have FF : Vm (d + 4) m_X10_rowOf [vR (some m), vI 8, vI (((130 + 22 * B : Nat) : Int) + 4)] (mH h m ad sc1 ar1) (kI (fun n12 h11 => ((n12 ≠ 0 → wpCV h11 (some m) 9 (fun b21 => Vm (d + 4) m_X10_isSign [vR (some b21), vI 45] h11 (kI (fun n14 h13 => ((n14 = 0 → in32 (((130 + 22 * B : Nat) : Int) + 12) ∧ wpCV h13 (some m) 9 (fun b18 => Vm (d + 4) m_X10_rowOf [vR (some b18), vI 10, vI (((130 + 22 * B : Nat) : Int) + 12)] h13 (kI (fun n17 h16 => ((n17 ≠ 0 → Vx (d + 5) m_X10_readsLoan 0 0 101 [some (vR (some m)), some (vI ((130 + 22 * B : Nat) : Int)), some (vI n12), some (vI n17)] [] h16 K) ∧ (¬ (n17 ≠ 0) → K (some (vI 0)) h16)))))) ∧ (¬ (n14 = 0) → wpCV h13 (some m) 9 (fun b20 => Vm (d + 4) m_X10_nextToken [vR (some b20)] h13 (kV (fun h19 => Vx (d + 5) m_X10_readsLoan 0 0 101 [some (vR (some m)), some (vI ((130 + 22 * B : Nat) : Int)), some (vI n12), some (vI 0)] [] h19 K)))))))))  ∧ (¬ (n12 ≠ 0) → K (some (vI 0)) h11)))) := by
    have hE1' := hE1.mono NS_PS
    rw [show ((130 + 22 * B : Nat) : Int) + 4 = ((134 + 22 * B : Nat) : Int) by omega]
    refine mc_rowOf hA (q := 8) hT ht1 hp1.1 (by omega) (by decide) (fun c => ?_) (fun c sc2 hE2 ht2 => ?_)
    · simp only [kI_some, kL_some, kR_some, kV_none, ne_eq, not_true_eq_false, not_false_eq_true, true_implies, false_implies, implies_true, true_and, and_true, ab_z01, or_true, true_or, reduceCtorEq, Option.some.injEq, Int.reduceEq, Int.reduceNe, Int.reduceLT, Int.reduceLE, Int.reduceNeg, Int.reduceAdd, Int.reduceSub, Int.reduceMul, Nat.reduceEqDiff, Nat.reduceAdd, Nat.reduceMul, Int.reduceToNat, ↓reduceIte]
      exact kf p (by unfold psLoan2; rw [if_neg c]) _ _ hE1' (pF_of hp1 ht1)
    have k2 : psLoan2 T L W (f : Int) (t : Int) p = psLoan3 T L W (f : Int) (t : Int) p (nx T L p) := by unfold psLoan2; rw [if_pos c]
    have htk := tkE_le (T := T) ht1.2.2.1
    have hpL := htk.2.2 c.1
    obtain ⟨n, hn⟩ : ∃ n, n = tkE T L p - p := ⟨_, rfl⟩
    rw [← hn] at ht2 ⊢
    have hn8 : 1 ≤ n ∧ n ≤ 8 := by omega
    have hpp : ∀ i, i < n → 97 ≤ T (p + i) ∧ T (p + i) ≤ 122 := fun i hi => kd_1.mp ((tkE_in (T := T) (L := L) (s := p) (j := p + i) (by omega) (by omega)).trans (kd_1.mpr c.2.1))
    obtain ⟨q, hq⟩ : ∃ q, q = nx T L p := ⟨_, rfl⟩
    rw [← hq] at k2 ht2
    obtain ⟨ar2, har2⟩ : ∃ ar2, ar2 = wrA g ar1 (134 + 22 * B) n T p := ⟨_, rfl⟩
    rw [← har2] at ht2 ⊢
    have ar2j : ∀ j, j ≠ 0 → ar2 j = ar1 j := fun j hj => by rw [har2]; exact wrA_3 hj
    have ar20 : ar2 0 = if g = true then wrR W (134 + 22 * no W) n T p else w0 := by
      rw [har2, wrA_0, hp1.2.2.2.2, hB]
      cases g <;> rfl
    have E2 : mE PSs sc1 ar1 sc2 ar2 := ⟨fun j hj => hE2.1 j (fun z => hj (by revert z; simp; omega)), fun j hj => ar2j j (fun z => hj (by rw [z]; decide))⟩
    have g11 : sc2 11 = b2i g := (hE2.1 11 (by decide)).trans hp1.1
    have pf2 : g = false → ar2 0 = w0 := fun e => by rw [ar20, e]; rfl
    simp only [mCV, kI_some, kL_some, kR_some, kV_none, vu_app, mgR_0, mgR_3, mgR_12, mgR_13, mgR_14, mgR_16, mgR_17, mgR_18, mgR_19, mgR_20, mgR_21, mgR_2, mgR_7, mgI_1, mgI_4, mgI_5, mgI_6, mgI_8, mgI_9, mgI_10, mgI_11, mgI_15, mgI_22, mpI_1, mpI_4, mpI_5, mpI_6, mpI_8, mpI_9, mpI_10, mpI_11, mpI_15, mpI_22, mlI_0 hA, mlI_3 hA, mlI_12 hA, mlI_13 hA, mlI_14 hA, mlI_16 hA, mlI_17 hA, mlI_18 hA, mlI_19 hA, mlI_20 hA, mlI_21 hA, msI_0 hA, msI_3 hA, msI_12 hA, msI_13 hA, msI_14 hA, msI_16 hA, msI_17 hA, msI_18 hA, msI_19 hA, msI_20 hA, msI_21 hA, mlZ_2 hA, mlZ_7 hA, msZ_2 hA, msZ_7 hA, kI_some, kL_some, kR_some, kV_none, ne_eq, not_true_eq_false, not_false_eq_true, true_implies, false_implies, implies_true, true_and, and_true, ab_z01, or_true, true_or, reduceCtorEq, Option.some.injEq, Int.reduceEq, Int.reduceNe, Int.reduceLT, Int.reduceLE, Int.reduceNeg, Int.reduceAdd, Int.reduceSub, Int.reduceMul, Nat.reduceEqDiff, Nat.reduceAdd, Nat.reduceMul, Int.reduceToNat, ↓reduceIte]
    refine ⟨fun _ => ?_, fun z => absurd (show (n : Int) = 0 from Classical.byContradiction z) (by omega)⟩
    refine mc_isSign hA hT ht2 (fun c1 => ?_) (fun c1 => ?_) <;> simp only [mCV, kI_some, kL_some, kR_some, kV_none, vu_app, mgR_0, mgR_3, mgR_12, mgR_13, mgR_14, mgR_16, mgR_17, mgR_18, mgR_19, mgR_20, mgR_21, mgR_2, mgR_7, mgI_1, mgI_4, mgI_5, mgI_6, mgI_8, mgI_9, mgI_10, mgI_11, mgI_15, mgI_22, mpI_1, mpI_4, mpI_5, mpI_6, mpI_8, mpI_9, mpI_10, mpI_11, mpI_15, mpI_22, mlI_0 hA, mlI_3 hA, mlI_12 hA, mlI_13 hA, mlI_14 hA, mlI_16 hA, mlI_17 hA, mlI_18 hA, mlI_19 hA, mlI_20 hA, mlI_21 hA, msI_0 hA, msI_3 hA, msI_12 hA, msI_13 hA, msI_14 hA, msI_16 hA, msI_17 hA, msI_18 hA, msI_19 hA, msI_20 hA, msI_21 hA, mlZ_2 hA, mlZ_7 hA, msZ_2 hA, msZ_7 hA, kI_some, kL_some, kR_some, kV_none, ne_eq, not_true_eq_false, not_false_eq_true, true_implies, false_implies, implies_true, true_and, and_true, ab_z01, or_true, true_or, reduceCtorEq, Option.some.injEq, Int.reduceEq, Int.reduceNe, Int.reduceLT, Int.reduceLE, Int.reduceNeg, Int.reduceAdd, Int.reduceSub, Int.reduceMul, Nat.reduceEqDiff, Nat.reduceAdd, Nat.reduceMul, Int.reduceToNat, ↓reduceIte]
    · obtain ⟨h4, h3, hs, h5, h6⟩ := ht2
      refine mc_nextToken hA hT h4 h3 h6 (tkE_le hs).2.1 (fun sc3 hE3 ht3 => ?_)
      simp only [kI_some, kL_some, kR_some, kV_none, ne_eq, not_true_eq_false, not_false_eq_true, true_implies, false_implies, implies_true, true_and, and_true, ab_z01, or_true, true_or, reduceCtorEq, Option.some.injEq, Int.reduceEq, Int.reduceNe, Int.reduceLT, Int.reduceLE, Int.reduceNeg, Int.reduceAdd, Int.reduceSub, Int.reduceMul, Nat.reduceEqDiff, Nat.reduceAdd, Nat.reduceMul, Int.reduceToNat, ↓reduceIte]
      refine F101 n q 0 (nx T L q) sc3 ar2 ?_ hn8.2 (by omega) hn8.1 hpp (fun i hi => absurd hi (by omega)) (E2.tr (hE3.mono (by decide))) (fun j hj => (hE3.1 j hj).trans (hE2.1 j hj)) ar2j ?_ ht3
      · rw [k2]
        unfold psLoan3
        rw [if_pos c1, ← hn]
      · rw [ar20]
        have : wrR (wrR W (134 + 22 * no W) n T p) (142 + 22 * no W) 0 T q = wrR W (134 + 22 * no W) n T p := funext fun j => if_neg (by omega)
        rw [this]
    · rw [show ((130 + 22 * B : Nat) : Int) + 12 = ((142 + 22 * B : Nat) : Int) by omega]
      refine ⟨i3 (by omega) (by omega), ?_⟩
      refine mc_rowOf hA (q := 10) hT ht2 g11 (by omega) (by decide) (fun c2 => ?_) (fun c2 sc3 hE3 ht3 => ?_) <;> simp only [kI_some, kL_some, kR_some, kV_none, ne_eq, not_true_eq_false, not_false_eq_true, true_implies, false_implies, implies_true, true_and, and_true, ab_z01, or_true, true_or, reduceCtorEq, Option.some.injEq, Int.reduceEq, Int.reduceNe, Int.reduceLT, Int.reduceLE, Int.reduceNeg, Int.reduceAdd, Int.reduceSub, Int.reduceMul, Nat.reduceEqDiff, Nat.reduceAdd, Nat.reduceMul, Int.reduceToNat, ↓reduceIte]
      · refine kf q ?_ _ _ (hE1'.tr E2) (pF_x ht2 pf2)
        rw [k2]
        unfold psLoan3
        rw [if_neg c1, if_neg c2]
      · have htk2 := tkE_le (T := T) ht2.2.2.1
        have hqL := htk2.2.2 c2.1
        obtain ⟨r, hr⟩ : ∃ r, r = tkE T L q - q := ⟨_, rfl⟩
        rw [← hr] at ht3 ⊢
        refine ⟨fun _ => ?_, fun z => absurd (show (r : Int) = 0 from Classical.byContradiction z) (by omega)⟩
        refine F101 n q r (nx T L q) sc3 (wrA g ar2 (142 + 22 * B) r T q) ?_ hn8.2 (by omega) hn8.1 hpp ?_ (E2.tr ⟨fun j hj => hE3.1 j (fun z => hj (by revert z; simp; omega)), fun j hj => wrA_3 (fun z => hj (by rw [z]; decide))⟩) (fun j hj => (hE3.1 j hj).trans (hE2.1 j hj)) (fun j hj => (wrA_3 hj).trans (ar2j j hj)) ?_ ht3
        · rw [k2]
          unfold psLoan3
          rw [if_neg c1, if_pos c2, ← hn, ← hr]
        · exact fun i hi => kd_1.mp ((tkE_in (T := T) (L := L) (s := q) (j := q + i) (by omega) (by omega)).trans (kd_1.mpr c2.2.1))
        · rw [wrA_0, ar20, hB]
          cases g <;> rfl
  simp only [mCV, kI_some, kL_some, kR_some, kV_none, vu_app, mgR_0, mgR_3, mgR_12, mgR_13, mgR_14, mgR_16, mgR_17, mgR_18, mgR_19, mgR_20, mgR_21, mgR_2, mgR_7, mgI_1, mgI_4, mgI_5, mgI_6, mgI_8, mgI_9, mgI_10, mgI_11, mgI_15, mgI_22, mpI_1, mpI_4, mpI_5, mpI_6, mpI_8, mpI_9, mpI_10, mpI_11, mpI_15, mpI_22, mlI_0 hA, mlI_3 hA, mlI_12 hA, mlI_13 hA, mlI_14 hA, mlI_16 hA, mlI_17 hA, mlI_18 hA, mlI_19 hA, mlI_20 hA, mlI_21 hA, msI_0 hA, msI_3 hA, msI_12 hA, msI_13 hA, msI_14 hA, msI_16 hA, msI_17 hA, msI_18 hA, msI_19 hA, msI_20 hA, msI_21 hA, mlZ_2 hA, mlZ_7 hA, msZ_2 hA, msZ_7 hA, kI_some, kL_some, kR_some, kV_none, ne_eq, not_true_eq_false, not_false_eq_true, true_implies, false_implies, implies_true, true_and, and_true, ab_z01, or_true, true_or, reduceCtorEq, Option.some.injEq, Int.reduceEq, Int.reduceNe, Int.reduceLT, Int.reduceLE, Int.reduceNeg, Int.reduceAdd, Int.reduceSub, Int.reduceMul, Nat.reduceEqDiff, Nat.reduceAdd, Nat.reduceMul, Int.reduceToNat, ↓reduceIte, hp1.1]
  cases g with
  | false =>
    refine ⟨fun _ => ?_, fun z => absurd rfl z⟩
    refine mc_loanAt (by decide) ?_
    have hB0 : B = 0 := by rw [hB]; rfl
    rw [hB0] at FF
    simp only [mCV, kI_some, kL_some, kR_some, kV_none, vu_app, mgR_0, mgR_3, mgR_12, mgR_13, mgR_14, mgR_16, mgR_17, mgR_18, mgR_19, mgR_20, mgR_21, mgR_2, mgR_7, mgI_1, mgI_4, mgI_5, mgI_6, mgI_8, mgI_9, mgI_10, mgI_11, mgI_15, mgI_22, mpI_1, mpI_4, mpI_5, mpI_6, mpI_8, mpI_9, mpI_10, mpI_11, mpI_15, mpI_22, mlI_0 hA, mlI_3 hA, mlI_12 hA, mlI_13 hA, mlI_14 hA, mlI_16 hA, mlI_17 hA, mlI_18 hA, mlI_19 hA, mlI_20 hA, mlI_21 hA, msI_0 hA, msI_3 hA, msI_12 hA, msI_13 hA, msI_14 hA, msI_16 hA, msI_17 hA, msI_18 hA, msI_19 hA, msI_20 hA, msI_21 hA, mlZ_2 hA, mlZ_7 hA, msZ_2 hA, msZ_7 hA, kI_some, kL_some, kR_some, kV_none, ne_eq, not_true_eq_false, not_false_eq_true, true_implies, false_implies, implies_true, true_and, and_true, ab_z01, or_true, true_or, reduceCtorEq, Option.some.injEq, Int.reduceEq, Int.reduceNe, Int.reduceLT, Int.reduceLE, Int.reduceNeg, Int.reduceAdd, Int.reduceSub, Int.reduceMul, Nat.reduceEqDiff, Nat.reduceAdd, Nat.reduceMul, Int.reduceToNat, ↓reduceIte]
    exact ⟨i3 (by omega) (by omega), FF⟩
  | true =>
    refine ⟨fun z => absurd z (by decide), fun _ => ?_⟩
    have hB0 : B = no W := by rw [hB]; rfl
    have a0 : ar1 0 = W := hp1.2.2.2.2
    rw [a0, ← n1]
    refine mc_loanAt (by omega) ?_
    rw [hB0] at FF
    simp only [mCV, kI_some, kL_some, kR_some, kV_none, vu_app, mgR_0, mgR_3, mgR_12, mgR_13, mgR_14, mgR_16, mgR_17, mgR_18, mgR_19, mgR_20, mgR_21, mgR_2, mgR_7, mgI_1, mgI_4, mgI_5, mgI_6, mgI_8, mgI_9, mgI_10, mgI_11, mgI_15, mgI_22, mpI_1, mpI_4, mpI_5, mpI_6, mpI_8, mpI_9, mpI_10, mpI_11, mpI_15, mpI_22, mlI_0 hA, mlI_3 hA, mlI_12 hA, mlI_13 hA, mlI_14 hA, mlI_16 hA, mlI_17 hA, mlI_18 hA, mlI_19 hA, mlI_20 hA, mlI_21 hA, msI_0 hA, msI_3 hA, msI_12 hA, msI_13 hA, msI_14 hA, msI_16 hA, msI_17 hA, msI_18 hA, msI_19 hA, msI_20 hA, msI_21 hA, mlZ_2 hA, mlZ_7 hA, msZ_2 hA, msZ_7 hA, kI_some, kL_some, kR_some, kV_none, ne_eq, not_true_eq_false, not_false_eq_true, true_implies, false_implies, implies_true, true_and, and_true, ab_z01, or_true, true_or, reduceCtorEq, Option.some.injEq, Int.reduceEq, Int.reduceNe, Int.reduceLT, Int.reduceLE, Int.reduceNeg, Int.reduceAdd, Int.reduceSub, Int.reduceMul, Nat.reduceEqDiff, Nat.reduceAdd, Nat.reduceMul, Int.reduceToNat, ↓reduceIte]
    rw [show 130 + 22 * (no W : Int) = ((130 + 22 * no W : Nat) : Int) by omega]
    exact ⟨i3 (by omega) (by omega), FF⟩
