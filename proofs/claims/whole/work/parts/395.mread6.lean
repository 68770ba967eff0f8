/-! reading keeps the world a world -/
theorem psLaw5_V {T : Nat → Int} {L : Nat} {W W' : Nat → Int} {t d x y v : Int} {s s' : Nat} (hs : s ≤ L) (hw : wV W) (hn : nl W ≤ 15) (h1 : 0 ≤ t ∧ t ≤ 3) (h2 : 1 ≤ d ∧ d ≤ 99) (hh : ¬ hasL W t d (nl W) = true) (h3 : 0 ≤ x ∧ x ≤ 25) (h4 : -1 ≤ y ∧ y ≤ 25) (h5 : x ≠ y) (h6 : v = 1 ∨ v = 2) (h : psLaw5 T L W t d x y v s = (some W', s')) : wV W' ∧ s' ≤ L := by
  unfold psLaw5 at h
  have := sndH_b (T := T) (L := L) (s := s)
  split at h
  · cases h
  · cases h
    exact ⟨(wV_ins hw hn (lawV_ps h1 h2 h3 h4 h5 (Or.inr ⟨h6, by omega⟩)) hh).1, nx_le hs⟩
theorem psLaw4_V {T : Nat → Int} {L : Nat} {W W' : Nat → Int} {t d x y : Int} {s s' : Nat} (hs : s ≤ L) (hw : wV W) (hn : nl W ≤ 15) (h1 : 0 ≤ t ∧ t ≤ 3) (h2 : 1 ≤ d ∧ d ≤ 99) (hh : ¬ hasL W t d (nl W) = true) (h3 : 0 ≤ x ∧ x ≤ 25) (h4 : -1 ≤ y ∧ y ≤ 25) (h5 : x ≠ y) (h : psLaw4 T L W t d x y s = (some W', s')) : wV W' ∧ s' ≤ L := by
  unfold psLaw4 at h
  split at h
  · cases h
    exact ⟨(wV_ins hw hn (lawV_ps h1 h2 h3 h4 h5 (Or.inl ⟨rfl, rfl⟩)) hh).1, nx_le hs⟩
  · split at h
    · exact psLaw5_V (nx_le hs) hw hn h1 h2 hh h3 h4 h5 (Or.inl rfl) h
    · split at h
      · exact psLaw5_V (nx_le hs) hw hn h1 h2 hh h3 h4 h5 (Or.inr rfl) h
      · cases h
theorem psLaw_V {T : Nat → Int} {L : Nat} {W W' : Nat → Int} {s s' : Nat} (hs : s ≤ L) (hw : wV W) (hn : nl W ≤ 15) (h : psLaw T L W s = (some W', s')) : wV W' ∧ s' ≤ L := by
  unfold psLaw at h
  split at h
  · rename_i c1
    unfold psLaw1 at h
    split at h
    · rename_i c2
      unfold psLaw2 at h
      split at h
      · cases h
      · rename_i c3
        have := sndH_b (T := T) (L := L) (s := nx T L (nx T L s))
        unfold psLaw3 at h
        split at h
        · exact psLaw4_V (nx_le (nx_le (nx_le (nx_le hs)))) hw hn c1 c2.1 c2.2 (by omega) (by omega) (by omega) h
        · split at h
          · cases h
          · rename_i c4 c5
            have := sndH_b (T := T) (L := L) (s := nx T L (nx T L (nx T L s)))
            exact psLaw4_V (nx_le (nx_le (nx_le (nx_le hs)))) hw hn c1 c2.1 c2.2 (by omega) (by omega) (by omega) h
    · cases h
  · cases h
theorem psTwo_V {T : Nat → Int} {L : Nat} {W' : Nat → Int} {G : Int → Int → Nat → Option (Nat → Int) × Nat} {s s' : Nat} (hs : s ≤ L) (h : psTwo T L G s = (some W', s')) : ∃ f t s2, tg f ∧ tg t ∧ f ≠ t ∧ s2 ≤ L ∧ G f t s2 = (some W', s') := by
  unfold psTwo at h
  split at h
  · rename_i c1
    unfold psTwo1 at h
    split at h
    · rename_i c2
      exact ⟨_, _, _, c1, c2.1, fun e => c2.2 e.symm, nx_le (nx_le hs), h⟩
    · cases h
  · cases h
theorem let_tk {T : Nat → Int} {L s : Nat} (h : 97 ≤ T s ∧ T s ≤ 122) : ∀ i, i < tkE T L s - s → 97 ≤ T (s + i) ∧ T (s + i) ≤ 122 := fun i hi => kd_1.mp ((tkE_in (T := T) (L := L) (s := s) (j := s + i) (by omega) (by omega)).trans (kd_1.mpr h))
theorem psC_V {T : Nat → Int} {L : Nat} {W W' : Nat → Int} {s s' : Nat} (hT : txV T L) (hs : s ≤ L) (hw : wV W) (h : psC T L W s = (some W', s')) : wV W' ∧ s' ≤ L := by
  obtain ⟨n1, n2⟩ := hw.nlw
  obtain ⟨n3, n4⟩ := hw.now
  unfold psC at h
  split at h
  · cases h
    exact ⟨wV_all.1, nx_le hs⟩
  · split at h
    · split at h
      · cases h
      · rename_i c
        exact psLaw_V (nx_le hs) hw (by omega) h
    · split at h
      · obtain ⟨f, t, s2, hf, ht, hft, hs2, h⟩ := psTwo_V (nx_le hs) h
        unfold psMeet2 at h
        split at h
        · rename_i c
          unfold psMeet3 at h
          split at h
          · rename_i c2
            cases h
            exact ⟨(wV_set hw hf ht (Or.inr (by omega))).1, nx_le (nx_le hs2)⟩
          · cases h
        · cases h
      · split at h
        · split at h
          · cases h
          · rename_i c
            obtain ⟨f, t, s2, hf, ht, hft, hs2, h⟩ := psTwo_V (nx_le hs) h
            unfold psLoan2 at h
            split at h
            · rename_i c1
              have e1 := tkE_le (T := T) hs2
              have e1' := e1.2.2 c1.1
              unfold psLoan3 at h
              split at h
              · cases h
                exact ⟨(wV_lon hw (by omega) hf ht hft (by omega) (by omega) (let_tk c1.2.1) (fun i hi => absurd hi (by omega))).1, nx_le (nx_le hs2)⟩
              · split at h
                · rename_i c2
                  cases h
                  exact ⟨(wV_lon hw (by omega) hf ht hft (by omega) (by omega) (let_tk c1.2.1) (let_tk c2.2.1)).1, nx_le (nx_le hs2)⟩
                · cases h
            · cases h
        · cases h
def psA (T : Nat → Int) (L : Nat) (n : Nat) (W : Nat → Int) (s c : Nat) : Option (Nat → Int) × Nat × Nat := if L ≤ s then (some W, s, c) else if n = 0 ∨ ¬ T s = 59 then (none, s, c) else psR T L n W (nx T L s) (c + 1)
theorem psR_some {T : Nat → Int} {L n : Nat} {W W' : Nat → Int} {s s' c : Nat} (h : psC T L W s = (some W', s')) : psR T L (n + 1) W s c = psA T L n W' s' c := by
  show (match psC T L W s with | (none, s') => _ | (some W', s') => _) = _
  rw [h]
  rfl
theorem psR_none {T : Nat → Int} {L n : Nat} {W : Nat → Int} {s s' c : Nat} (h : psC T L W s = (none, s')) : psR T L (n + 1) W s c = (none, s', c) := by
  show (match psC T L W s with | (none, s') => _ | (some W', s') => _) = _
  rw [h]
theorem psR_V {T : Nat → Int} {L : Nat} (hT : txV T L) : ∀ {n : Nat} {W W' : Nat → Int} {s s' c c' : Nat}, s ≤ L → wV W → psR T L n W s c = (some W', s', c') → wV W' ∧ c' < c + n
  | 0, W, W', s, s', c, c', hs, hw, h => by cases h
  | n + 1, W, W', s, s', c, c', hs, hw, h => by
    cases hc : psC T L W s with
    | mk o s1 =>
      cases o with
      | none =>
        rw [psR_none hc] at h
        cases h
      | some W1 =>
        rw [psR_some hc] at h
        obtain ⟨v1, v2⟩ := psC_V hT hs hw hc
        unfold psA at h
        split at h
        · cases h
          exact ⟨v1, by omega⟩
        · split at h
          · cases h
          · obtain ⟨a, b⟩ := psR_V hT (nx_le v2) v1 h
            exact ⟨a, by omega⟩
theorem psT_V {T : Nat → Int} {L : Nat} {W W' : Nat → Int} {s' c' : Nat} (hT : txV T L) (hw : wV W) (h : psT T L W = (some W', s', c')) : wV W' ∧ c' ≤ 24 := by
  obtain ⟨a, b⟩ := psR_V hT (skp_le (Nat.zero_le _)).2 hw h
  exact ⟨a, by omega⟩
abbrev RDs : List Nat := [0, 5, 6, 7, 8, 9, 10, 11, 12]
set_option maxRecDepth 100000 in
set_option maxHeartbeats 4000000 in
theorem mc_reads {d : Nat} {h : AbH} {m : Nat} {ad : Nat → Nat} {sc : Nat → Int} {ar : Nat → Nat → Int} {K : Option AbV → AbH → Prop} (hA : mA ad) {T : Nat → Int} {L : Nat} {g : Bool} (hT : txV T L) (h4 : sc 4 = (L : Int)) (h3 : ar 3 = T) (hW : wds ar) (hw : wV (ar 0)) (kf : ∀ s' c, psT T L (ar 0) = (none, s', c) → ∀ sc' ar', mE RDs sc ar sc' ar' → sc' 5 = (s' : Int) → (g = false → ar' 0 = ar 0) → K (some (vI 0)) (mH h m ad sc' ar')) (kk : ∀ W' s' c, psT T L (ar 0) = (some W', s', c) → ∀ sc' ar', mE RDs sc ar sc' ar' → sc' 10 = (c : Int) → (ar' 0 = if g = true then W' else ar 0) → K (some (vI 1)) (mH h m ad sc' ar')) : Vm (d + 8) m_X10_reads [vR (some m), vI (b2i g)] (mH h m ad sc ar) K := by
  obtain ⟨w, ew⟩ : ∃ w, w = ar 0 := ⟨_, rfl⟩
  rw [← ew] at hw kf kk
  obtain ⟨n1, n2⟩ := hw.nlw
  obtain ⟨n3, n4⟩ := hw.now
  -- behind a clause
  have F94z : ∀ (s' c : Nat) sc' ar', psT T L w = (none, s', c) → mE RDs sc ar sc' ar' → pF g w s' sc' ar' → Vx (d + 8) m_X10_reads 0 0 94 [some (vR (some m)), some (vI (b2i g)), some (vI 0)] [] (mH h m ad sc' ar') K := by
    intro s' c sc' ar' e hE hF
    refine B_X10_reads_94 ?_
    simp only [kI_some, kL_some, kR_some, kV_none, ne_eq, not_true_eq_false, not_false_eq_true, true_implies, false_implies, implies_true, true_and, and_true, ab_z01, or_true, true_or, reduceCtorEq, Option.some.injEq, Int.reduceEq, Int.reduceNe, Int.reduceLT, Int.reduceLE, Int.reduceNeg, Int.reduceAdd, Int.reduceSub, Int.reduceMul, Nat.reduceEqDiff, Nat.reduceAdd, Nat.reduceMul, Int.reduceToNat, ↓reduceIte]
    exact kf s' c e _ _ hE hF.1 hF.2
  have F94 : ∀ (n : Nat) (W : Nat → Int) (s c : Nat) sc' ar', c + n = 24 → psT T L w = psA T L n W s c → wV W → mE RDs sc ar sc' ar' → tk T L sc' ar' s → pS g W w sc' ar' → sc' 10 = (c : Int) → Vx (d + 8) m_X10_reads 0 0 94 [some (vR (some m)), some (vI (b2i g)), some (vI 1)] [] (mH h m ad sc' ar') K := by
    intro n
    induction n with
    | zero =>
      intro W s c sc' ar' hc hr hwW hE htk hp h10
      have htk' := htk
      obtain ⟨q4, q3, qs, q5, q6⟩ := htk
      have hL := hT.1
      refine B_X10_reads_94 ?_
      simp only [mCV, kI_some, kL_some, kR_some, kV_none, vu_app, mgR_0, mgR_3, mgR_12, mgR_13, mgR_14, mgR_16, mgR_17, mgR_18, mgR_19, mgR_20, mgR_21, mgR_2, mgR_7, mgI_1, mgI_4, mgI_5, mgI_6, mgI_8, mgI_9, mgI_10, mgI_11, mgI_15, mgI_22, mpI_1, mpI_4, mpI_5, mpI_6, mpI_8, mpI_9, mpI_10, mpI_11, mpI_15, mpI_22, mlI_0 hA, mlI_3 hA, mlI_12 hA, mlI_13 hA, mlI_14 hA, mlI_16 hA, mlI_17 hA, mlI_18 hA, mlI_19 hA, mlI_20 hA, mlI_21 hA, msI_0 hA, msI_3 hA, msI_12 hA, msI_13 hA, msI_14 hA, msI_16 hA, msI_17 hA, msI_18 hA, msI_19 hA, msI_20 hA, msI_21 hA, mlZ_2 hA, mlZ_7 hA, msZ_2 hA, msZ_7 hA, kI_some, kL_some, kR_some, kV_none, ne_eq, not_true_eq_false, not_false_eq_true, true_implies, false_implies, implies_true, true_and, and_true, ab_z01, or_true, true_or, reduceCtorEq, Option.some.injEq, Int.reduceEq, Int.reduceNe, Int.reduceLT, Int.reduceLE, Int.reduceNeg, Int.reduceAdd, Int.reduceSub, Int.reduceMul, Nat.reduceEqDiff, Nat.reduceAdd, Nat.reduceMul, Int.reduceToNat, ↓reduceIte, q4, q5, q3, h10, Int.toNat_natCast]
      refine ⟨fun z => ?_, fun z => ⟨fun _ => ?_, fun y => absurd (by omega) y⟩⟩
      · refine kk W s c (by rw [hr]; unfold psA; rw [if_pos (by omega)]) _ _ hE h10 hp.2.2.2.2
      · exact F94z s c _ _ (by rw [hr]; unfold psA; rw [if_neg (by omega), if_pos (Or.inl rfl)]) hE (pF_of hp htk')
    | succ n ih =>
      intro W s c sc' ar' hc hr hwW hE htk hp h10
      have htk' := htk
      obtain ⟨q4, q3, qs, q5, q6⟩ := htk
      have hL := hT.1
      refine B_X10_reads_94 ?_
      simp only [mCV, kI_some, kL_some, kR_some, kV_none, vu_app, mgR_0, mgR_3, mgR_12, mgR_13, mgR_14, mgR_16, mgR_17, mgR_18, mgR_19, mgR_20, mgR_21, mgR_2, mgR_7, mgI_1, mgI_4, mgI_5, mgI_6, mgI_8, mgI_9, mgI_10, mgI_11, mgI_15, mgI_22, mpI_1, mpI_4, mpI_5, mpI_6, mpI_8, mpI_9, mpI_10, mpI_11, mpI_15, mpI_22, mlI_0 hA, mlI_3 hA, mlI_12 hA, mlI_13 hA, mlI_14 hA, mlI_16 hA, mlI_17 hA, mlI_18 hA, mlI_19 hA, mlI_20 hA, mlI_21 hA, msI_0 hA, msI_3 hA, msI_12 hA, msI_13 hA, msI_14 hA, msI_16 hA, msI_17 hA, msI_18 hA, msI_19 hA, msI_20 hA, msI_21 hA, mlZ_2 hA, mlZ_7 hA, msZ_2 hA, msZ_7 hA, kI_some, kL_some, kR_some, kV_none, ne_eq, not_true_eq_false, not_false_eq_true, true_implies, false_implies, implies_true, true_and, and_true, ab_z01, or_true, true_or, reduceCtorEq, Option.some.injEq, Int.reduceEq, Int.reduceNe, Int.reduceLT, Int.reduceLE, Int.reduceNeg, Int.reduceAdd, Int.reduceSub, Int.reduceMul, Nat.reduceEqDiff, Nat.reduceAdd, Nat.reduceMul, Int.reduceToNat, ↓reduceIte, q4, q5, q3, h10, Int.toNat_natCast]
      refine ⟨fun z => ?_, fun z => ⟨fun y => absurd y (by omega), fun _ => ?_⟩⟩
      · refine kk W s c (by rw [hr]; unfold psA; rw [if_pos (by omega)]) _ _ hE h10 hp.2.2.2.2
      repeat (first | refine And.intro (by omega) ?_ | refine And.intro (i3 (by omega) (by omega)) ?_)
      refine ⟨fun y => ?_, fun y => ?_⟩
      · exact F94z s c _ _ (by rw [hr]; unfold psA; rw [if_neg (by omega), if_pos (Or.inr y)]) hE (pF_of hp htk')
      refine mc_nextToken hA hT q4 q3 q6 (tkE_le qs).2.1 (fun sc1 hE1 ht1 => ?_)
      simp only [mCV, kI_some, kL_some, kR_some, kV_none, vu_app, mgR_0, mgR_3, mgR_12, mgR_13, mgR_14, mgR_16, mgR_17, mgR_18, mgR_19, mgR_20, mgR_21, mgR_2, mgR_7, mgI_1, mgI_4, mgI_5, mgI_6, mgI_8, mgI_9, mgI_10, mgI_11, mgI_15, mgI_22, mpI_1, mpI_4, mpI_5, mpI_6, mpI_8, mpI_9, mpI_10, mpI_11, mpI_15, mpI_22, mlI_0 hA, mlI_3 hA, mlI_12 hA, mlI_13 hA, mlI_14 hA, mlI_16 hA, mlI_17 hA, mlI_18 hA, mlI_19 hA, mlI_20 hA, mlI_21 hA, msI_0 hA, msI_3 hA, msI_12 hA, msI_13 hA, msI_14 hA, msI_16 hA, msI_17 hA, msI_18 hA, msI_19 hA, msI_20 hA, msI_21 hA, mlZ_2 hA, mlZ_7 hA, msZ_2 hA, msZ_7 hA, kI_some, kL_some, kR_some, kV_none, ne_eq, not_true_eq_false, not_false_eq_true, true_implies, false_implies, implies_true, true_and, and_true, ab_z01, or_true, true_or, reduceCtorEq, Option.some.injEq, Int.reduceEq, Int.reduceNe, Int.reduceLT, Int.reduceLE, Int.reduceNeg, Int.reduceAdd, Int.reduceSub, Int.reduceMul, Nat.reduceEqDiff, Nat.reduceAdd, Nat.reduceMul, Int.reduceToNat, ↓reduceIte]
      have hr2 : psT T L w = psR T L (n + 1) W (nx T L s) (c + 1) := by rw [hr]; unfold psA; rw [if_neg (by omega), if_neg (fun z => by rcases z with z | z; omega; exact y z)]
      refine mc_readsClause hA hT ht1 (fun x j hx hj => by rw [hE.2 13 (by decide)]; exact hW x j hx hj) hwW (hp.mv (hE1.mono (by decide))) (fun s' e sc2 ar2 hE2 hF => ?_) (fun W' s' e sc2 ar2 hE2 htk2 hp2 => ?_)
      · have y10 : sc2 10 = (c : Int) := (hE2.1 10 (by decide)).trans ((hE1.1 10 (by decide)).trans h10)
        simp only [mCV, kI_some, kL_some, kR_some, kV_none, vu_app, mgR_0, mgR_3, mgR_12, mgR_13, mgR_14, mgR_16, mgR_17, mgR_18, mgR_19, mgR_20, mgR_21, mgR_2, mgR_7, mgI_1, mgI_4, mgI_5, mgI_6, mgI_8, mgI_9, mgI_10, mgI_11, mgI_15, mgI_22, mpI_1, mpI_4, mpI_5, mpI_6, mpI_8, mpI_9, mpI_10, mpI_11, mpI_15, mpI_22, mlI_0 hA, mlI_3 hA, mlI_12 hA, mlI_13 hA, mlI_14 hA, mlI_16 hA, mlI_17 hA, mlI_18 hA, mlI_19 hA, mlI_20 hA, mlI_21 hA, msI_0 hA, msI_3 hA, msI_12 hA, msI_13 hA, msI_14 hA, msI_16 hA, msI_17 hA, msI_18 hA, msI_19 hA, msI_20 hA, msI_21 hA, mlZ_2 hA, mlZ_7 hA, msZ_2 hA, msZ_7 hA, kI_some, kL_some, kR_some, kV_none, ne_eq, not_true_eq_false, not_false_eq_true, true_implies, false_implies, implies_true, true_and, and_true, ab_z01, or_true, true_or, reduceCtorEq, Option.some.injEq, Int.reduceEq, Int.reduceNe, Int.reduceLT, Int.reduceLE, Int.reduceNeg, Int.reduceAdd, Int.reduceSub, Int.reduceMul, Nat.reduceEqDiff, Nat.reduceAdd, Nat.reduceMul, Int.reduceToNat, ↓reduceIte, y10]
        refine ⟨i3 (by omega) (by omega), ?_⟩
        refine F94z s' (c + 1) _ _ (by rw [hr2]; exact psR_none e) (((hE.tr (hE1.mono (by decide))).tr (hE2.mono (by decide))).sc (by decide)) ⟨by rw [vu_ne (by decide)]; exact hF.1, hF.2⟩
      · have y10 : sc2 10 = (c : Int) := (hE2.1 10 (by decide)).trans ((hE1.1 10 (by decide)).trans h10)
        simp only [mCV, kI_some, kL_some, kR_some, kV_none, vu_app, mgR_0, mgR_3, mgR_12, mgR_13, mgR_14, mgR_16, mgR_17, mgR_18, mgR_19, mgR_20, mgR_21, mgR_2, mgR_7, mgI_1, mgI_4, mgI_5, mgI_6, mgI_8, mgI_9, mgI_10, mgI_11, mgI_15, mgI_22, mpI_1, mpI_4, mpI_5, mpI_6, mpI_8, mpI_9, mpI_10, mpI_11, mpI_15, mpI_22, mlI_0 hA, mlI_3 hA, mlI_12 hA, mlI_13 hA, mlI_14 hA, mlI_16 hA, mlI_17 hA, mlI_18 hA, mlI_19 hA, mlI_20 hA, mlI_21 hA, msI_0 hA, msI_3 hA, msI_12 hA, msI_13 hA, msI_14 hA, msI_16 hA, msI_17 hA, msI_18 hA, msI_19 hA, msI_20 hA, msI_21 hA, mlZ_2 hA, mlZ_7 hA, msZ_2 hA, msZ_7 hA, kI_some, kL_some, kR_some, kV_none, ne_eq, not_true_eq_false, not_false_eq_true, true_implies, false_implies, implies_true, true_and, and_true, ab_z01, or_true, true_or, reduceCtorEq, Option.some.injEq, Int.reduceEq, Int.reduceNe, Int.reduceLT, Int.reduceLE, Int.reduceNeg, Int.reduceAdd, Int.reduceSub, Int.reduceMul, Nat.reduceEqDiff, Nat.reduceAdd, Nat.reduceMul, Int.reduceToNat, ↓reduceIte, y10]
        refine ⟨i3 (by omega) (by omega), ?_⟩
        obtain ⟨v1, v2⟩ := psC_V hT (nx_le qs) hwW e
        refine ih W' s' (c + 1) _ _ (by omega) (by rw [hr2]; exact psR_some e) v1 (((hE.tr (hE1.mono (by decide))).tr (hE2.mono (by decide))).sc (by decide)) ?_ ?_ (by rw [vu_same]; omega)
        · obtain ⟨r4, r3, rs, r5, r6⟩ := htk2
          exact ⟨by rw [vu_ne (by decide)]; exact r4, r3, rs, by rw [vu_ne (by decide)]; exact r5, by rw [vu_ne (by decide)]; exact r6⟩
        · obtain ⟨p1, p2, p3, p4, p5⟩ := hp2
          exact ⟨by rw [vu_ne (by decide)]; exact p1, by rw [vu_ne (by decide)]; exact p2, by rw [vu_ne (by decide)]; exact p3, p4, p5⟩
  refine Vm.intro rfl (Nat.le_of_ble_eq_true rfl) (fun _ => B_X10_reads_0 ?_)
  simp only [mCV, kI_some, kL_some, kR_some, kV_none, vu_app, mgR_0, mgR_3, mgR_12, mgR_13, mgR_14, mgR_16, mgR_17, mgR_18, mgR_19, mgR_20, mgR_21, mgR_2, mgR_7, mgI_1, mgI_4, mgI_5, mgI_6, mgI_8, mgI_9, mgI_10, mgI_11, mgI_15, mgI_22, mpI_1, mpI_4, mpI_5, mpI_6, mpI_8, mpI_9, mpI_10, mpI_11, mpI_15, mpI_22, mlI_0 hA, mlI_3 hA, mlI_12 hA, mlI_13 hA, mlI_14 hA, mlI_16 hA, mlI_17 hA, mlI_18 hA, mlI_19 hA, mlI_20 hA, mlI_21 hA, msI_0 hA, msI_3 hA, msI_12 hA, msI_13 hA, msI_14 hA, msI_16 hA, msI_17 hA, msI_18 hA, msI_19 hA, msI_20 hA, msI_21 hA, mlZ_2 hA, mlZ_7 hA, msZ_2 hA, msZ_7 hA, kI_some, kL_some, kR_some, kV_none, ne_eq, not_true_eq_false, not_false_eq_true, true_implies, false_implies, implies_true, true_and, and_true, ab_z01, or_true, true_or, reduceCtorEq, Option.some.injEq, Int.reduceEq, Int.reduceNe, Int.reduceLT, Int.reduceLE, Int.reduceNeg, Int.reduceAdd, Int.reduceSub, Int.reduceMul, Nat.reduceEqDiff, Nat.reduceAdd, Nat.reduceMul, Int.reduceToNat, ↓reduceIte]
  refine mc_readsAll hA (g := false) (W := w) (w0 := w) (by rw [vu_same]; rfl) ew.symm (fun sc1 ar1 hE1 hp1 => ?_)
  have a0 : ar1 0 = w := hp1.2.2.2.2
  have a3 : ar1 3 = T := (hE1.2 3 (by decide)).trans h3
  have b4 : sc1 4 = (L : Int) := (hE1.1 4 (by decide)).trans ((vu_ne (by decide)).trans h4)
  simp only [mCV, kI_some, kL_some, kR_some, kV_none, vu_app, mgR_0, mgR_3, mgR_12, mgR_13, mgR_14, mgR_16, mgR_17, mgR_18, mgR_19, mgR_20, mgR_21, mgR_2, mgR_7, mgI_1, mgI_4, mgI_5, mgI_6, mgI_8, mgI_9, mgI_10, mgI_11, mgI_15, mgI_22, mpI_1, mpI_4, mpI_5, mpI_6, mpI_8, mpI_9, mpI_10, mpI_11, mpI_15, mpI_22, mlI_0 hA, mlI_3 hA, mlI_12 hA, mlI_13 hA, mlI_14 hA, mlI_16 hA, mlI_17 hA, mlI_18 hA, mlI_19 hA, mlI_20 hA, mlI_21 hA, msI_0 hA, msI_3 hA, msI_12 hA, msI_13 hA, msI_14 hA, msI_16 hA, msI_17 hA, msI_18 hA, msI_19 hA, msI_20 hA, msI_21 hA, mlZ_2 hA, mlZ_7 hA, msZ_2 hA, msZ_7 hA, kI_some, kL_some, kR_some, kV_none, ne_eq, not_true_eq_false, not_false_eq_true, true_implies, false_implies, implies_true, true_and, and_true, ab_z01, or_true, true_or, reduceCtorEq, Option.some.injEq, Int.reduceEq, Int.reduceNe, Int.reduceLT, Int.reduceLE, Int.reduceNeg, Int.reduceAdd, Int.reduceSub, Int.reduceMul, Nat.reduceEqDiff, Nat.reduceAdd, Nat.reduceMul, Int.reduceToNat, ↓reduceIte, a0]
  refine ⟨b2i_01 g, ?_⟩
  obtain ⟨sc2, hsc2⟩ : ∃ s, s = va_up (va_up (va_up (va_up (va_up sc1 11 (b2i g)) 6 0) 10 1) 8 (w 0)) 9 (w 1) := ⟨_, rfl⟩
  rw [← hsc2]
  have c4 : sc2 4 = (L : Int) := by rw [hsc2]; simp only [vu_app, Nat.reduceEqDiff, ↓reduceIte]; exact b4
  have c6 : sc2 6 = ((0 : Nat) : Int) := by rw [hsc2]; simp only [vu_app, Nat.reduceEqDiff, ↓reduceIte]; rfl
  have c8 : sc2 8 = w 0 := by rw [hsc2]; simp only [vu_app, Nat.reduceEqDiff, ↓reduceIte]
  have c9 : sc2 9 = w 1 := by rw [hsc2]; simp only [vu_app, Nat.reduceEqDiff, ↓reduceIte]
  have c10 : sc2 10 = ((1 : Nat) : Int) := by rw [hsc2]; simp only [vu_app, Nat.reduceEqDiff, ↓reduceIte]; rfl
  have c11 : sc2 11 = b2i g := by rw [hsc2]; simp only [vu_app, Nat.reduceEqDiff, ↓reduceIte]
  have E0 : mE RDs sc ar (va_up sc 11 0) ar := mE.rf.sc (by decide)
  have E2 : mE RDs sc ar sc2 ar1 := by
    rw [hsc2]
    exact (((((E0.tr (hE1.mono (by decide))).sc (by decide)).sc (by decide)).sc (by decide)).sc (by decide)).sc (by decide)
  refine lp_up (P := fun i => ∀ ar', mE [7] sc2 ar1 sc2 ar' → (∀ t d : Nat, t < 4 → d < 100 → ar' 7 (100 * t + d) = b2i (hasL w (t : Int) (d : Int) i)) → Vx (d + 8) m_X10_reads 0 0 47 [some (vR (some m)), some (vI (b2i g)), some (vI (i : Int))] [] (mH h m ad sc2 ar') K) (n := nl w) ?_ ?_ 0 (by omega) ar1 mE.rf (fun t d ht hd => ?_)
  · intro ar' hE h7
    have z0 : ar' 0 = w := (hE.2 0 (by decide)).trans a0
    have z3 : ar' 3 = T := (hE.2 3 (by decide)).trans a3
    refine B_X10_reads_47 ?_
    simp only [mCV, kI_some, kL_some, kR_some, kV_none, vu_app, mgR_0, mgR_3, mgR_12, mgR_13, mgR_14, mgR_16, mgR_17, mgR_18, mgR_19, mgR_20, mgR_21, mgR_2, mgR_7, mgI_1, mgI_4, mgI_5, mgI_6, mgI_8, mgI_9, mgI_10, mgI_11, mgI_15, mgI_22, mpI_1, mpI_4, mpI_5, mpI_6, mpI_8, mpI_9, mpI_10, mpI_11, mpI_15, mpI_22, mlI_0 hA, mlI_3 hA, mlI_12 hA, mlI_13 hA, mlI_14 hA, mlI_16 hA, mlI_17 hA, mlI_18 hA, mlI_19 hA, mlI_20 hA, mlI_21 hA, msI_0 hA, msI_3 hA, msI_12 hA, msI_13 hA, msI_14 hA, msI_16 hA, msI_17 hA, msI_18 hA, msI_19 hA, msI_20 hA, msI_21 hA, mlZ_2 hA, mlZ_7 hA, msZ_2 hA, msZ_7 hA, kI_some, kL_some, kR_some, kV_none, ne_eq, not_true_eq_false, not_false_eq_true, true_implies, false_implies, implies_true, true_and, and_true, ab_z01, or_true, true_or, reduceCtorEq, Option.some.injEq, Int.reduceEq, Int.reduceNe, Int.reduceLT, Int.reduceLE, Int.reduceNeg, Int.reduceAdd, Int.reduceSub, Int.reduceMul, Nat.reduceEqDiff, Nat.reduceAdd, Nat.reduceMul, Int.reduceToNat, ↓reduceIte, z0]
    refine ⟨fun _ => ?_, fun c => absurd (by omega) c⟩
    refine mc_nextToken hA hT c4 z3 c6 (Nat.zero_le _) (fun sc3 hE3 ht3 => ?_)
    simp only [mCV, kI_some, kL_some, kR_some, kV_none, vu_app, mgR_0, mgR_3, mgR_12, mgR_13, mgR_14, mgR_16, mgR_17, mgR_18, mgR_19, mgR_20, mgR_21, mgR_2, mgR_7, mgI_1, mgI_4, mgI_5, mgI_6, mgI_8, mgI_9, mgI_10, mgI_11, mgI_15, mgI_22, mpI_1, mpI_4, mpI_5, mpI_6, mpI_8, mpI_9, mpI_10, mpI_11, mpI_15, mpI_22, mlI_0 hA, mlI_3 hA, mlI_12 hA, mlI_13 hA, mlI_14 hA, mlI_16 hA, mlI_17 hA, mlI_18 hA, mlI_19 hA, mlI_20 hA, mlI_21 hA, msI_0 hA, msI_3 hA, msI_12 hA, msI_13 hA, msI_14 hA, msI_16 hA, msI_17 hA, msI_18 hA, msI_19 hA, msI_20 hA, msI_21 hA, mlZ_2 hA, mlZ_7 hA, msZ_2 hA, msZ_7 hA, kI_some, kL_some, kR_some, kV_none, ne_eq, not_true_eq_false, not_false_eq_true, true_implies, false_implies, implies_true, true_and, and_true, ab_z01, or_true, true_or, reduceCtorEq, Option.some.injEq, Int.reduceEq, Int.reduceNe, Int.reduceLT, Int.reduceLE, Int.reduceNeg, Int.reduceAdd, Int.reduceSub, Int.reduceMul, Nat.reduceEqDiff, Nat.reduceAdd, Nat.reduceMul, Int.reduceToNat, ↓reduceIte]
    have hp3 : pS g w w sc3 ar' := ⟨(hE3.1 11 (by decide)).trans c11, (hE3.1 8 (by decide)).trans c8, (hE3.1 9 (by decide)).trans c9, h7, by rw [z0]; split <;> rfl⟩
    have E3 : mE RDs sc ar sc3 ar' := (E2.tr (hE.mono (by decide))).tr (hE3.mono (by decide))
    refine mc_readsClause hA hT ht3 (fun x j hx hj => by rw [E3.2 13 (by decide)]; exact hW x j hx hj) hw hp3 (fun s' e sc4 ar4 hE4 hF => ?_) (fun W' s' e sc4 ar4 hE4 htk4 hp4 => ?_) <;> simp only [kI_some, kL_some, kR_some, kV_none, ne_eq, not_true_eq_false, not_false_eq_true, true_implies, false_implies, implies_true, true_and, and_true, ab_z01, or_true, true_or, reduceCtorEq, Option.some.injEq, Int.reduceEq, Int.reduceNe, Int.reduceLT, Int.reduceLE, Int.reduceNeg, Int.reduceAdd, Int.reduceSub, Int.reduceMul, Nat.reduceEqDiff, Nat.reduceAdd, Nat.reduceMul, Int.reduceToNat, ↓reduceIte]
    · exact F94z s' 1 _ _ (by unfold psT; rw [psR_none e]) (E3.tr (hE4.mono (by decide))) hF
    · obtain ⟨v1, v2⟩ := psC_V hT ht3.2.2.1 hw e
      exact F94 23 W' s' 1 _ _ (by decide) (by unfold psT; rw [psR_some e]) v1 (E3.tr (hE4.mono (by decide))) htk4 hp4 ((hE4.1 10 (by decide)).trans ((hE3.1 10 (by decide)).trans c10))
  · intro i hi ih ar' hE h7
    have z0 : ar' 0 = w := (hE.2 0 (by decide)).trans a0
    obtain ⟨v1, v2, _⟩ := hw.2.1 i hi
    have v1a := v1.1
    have v1b := v1.2
    refine B_X10_reads_47 ?_
    simp only [mCV, kI_some, kL_some, kR_some, kV_none, vu_app, mgR_0, mgR_3, mgR_12, mgR_13, mgR_14, mgR_16, mgR_17, mgR_18, mgR_19, mgR_20, mgR_21, mgR_2, mgR_7, mgI_1, mgI_4, mgI_5, mgI_6, mgI_8, mgI_9, mgI_10, mgI_11, mgI_15, mgI_22, mpI_1, mpI_4, mpI_5, mpI_6, mpI_8, mpI_9, mpI_10, mpI_11, mpI_15, mpI_22, mlI_0 hA, mlI_3 hA, mlI_12 hA, mlI_13 hA, mlI_14 hA, mlI_16 hA, mlI_17 hA, mlI_18 hA, mlI_19 hA, mlI_20 hA, mlI_21 hA, msI_0 hA, msI_3 hA, msI_12 hA, msI_13 hA, msI_14 hA, msI_16 hA, msI_17 hA, msI_18 hA, msI_19 hA, msI_20 hA, msI_21 hA, mlZ_2 hA, mlZ_7 hA, msZ_2 hA, msZ_7 hA, kI_some, kL_some, kR_some, kV_none, ne_eq, not_true_eq_false, not_false_eq_true, true_implies, false_implies, implies_true, true_and, and_true, ab_z01, or_true, true_or, reduceCtorEq, Option.some.injEq, Int.reduceEq, Int.reduceNe, Int.reduceLT, Int.reduceLE, Int.reduceNeg, Int.reduceAdd, Int.reduceSub, Int.reduceMul, Nat.reduceEqDiff, Nat.reduceAdd, Nat.reduceMul, Int.reduceToNat, ↓reduceIte, z0]
    refine ⟨fun c => absurd c (by omega), fun _ => ?_⟩
    refine mc_lawOf hA (j := 0) (by omega) (by decide) ?_
    simp only [mCV, kI_some, kL_some, kR_some, kV_none, vu_app, mgR_0, mgR_3, mgR_12, mgR_13, mgR_14, mgR_16, mgR_17, mgR_18, mgR_19, mgR_20, mgR_21, mgR_2, mgR_7, mgI_1, mgI_4, mgI_5, mgI_6, mgI_8, mgI_9, mgI_10, mgI_11, mgI_15, mgI_22, mpI_1, mpI_4, mpI_5, mpI_6, mpI_8, mpI_9, mpI_10, mpI_11, mpI_15, mpI_22, mlI_0 hA, mlI_3 hA, mlI_12 hA, mlI_13 hA, mlI_14 hA, mlI_16 hA, mlI_17 hA, mlI_18 hA, mlI_19 hA, mlI_20 hA, mlI_21 hA, msI_0 hA, msI_3 hA, msI_12 hA, msI_13 hA, msI_14 hA, msI_16 hA, msI_17 hA, msI_18 hA, msI_19 hA, msI_20 hA, msI_21 hA, mlZ_2 hA, mlZ_7 hA, msZ_2 hA, msZ_7 hA, kI_some, kL_some, kR_some, kV_none, ne_eq, not_true_eq_false, not_false_eq_true, true_implies, false_implies, implies_true, true_and, and_true, ab_z01, or_true, true_or, reduceCtorEq, Option.some.injEq, Int.reduceEq, Int.reduceNe, Int.reduceLT, Int.reduceLE, Int.reduceNeg, Int.reduceAdd, Int.reduceSub, Int.reduceMul, Nat.reduceEqDiff, Nat.reduceAdd, Nat.reduceMul, Int.reduceToNat, ↓reduceIte, z0]
    rw [show w (2 + 6 * i + 0) = lw w i 0 from rfl]
    repeat (first | refine And.intro (by omega) ?_ | refine And.intro (i3 (by omega) (by omega)) ?_)
    refine mc_lawOf hA (j := 1) (by omega) (by decide) ?_
    simp only [mCV, kI_some, kL_some, kR_some, kV_none, vu_app, mgR_0, mgR_3, mgR_12, mgR_13, mgR_14, mgR_16, mgR_17, mgR_18, mgR_19, mgR_20, mgR_21, mgR_2, mgR_7, mgI_1, mgI_4, mgI_5, mgI_6, mgI_8, mgI_9, mgI_10, mgI_11, mgI_15, mgI_22, mpI_1, mpI_4, mpI_5, mpI_6, mpI_8, mpI_9, mpI_10, mpI_11, mpI_15, mpI_22, mlI_0 hA, mlI_3 hA, mlI_12 hA, mlI_13 hA, mlI_14 hA, mlI_16 hA, mlI_17 hA, mlI_18 hA, mlI_19 hA, mlI_20 hA, mlI_21 hA, msI_0 hA, msI_3 hA, msI_12 hA, msI_13 hA, msI_14 hA, msI_16 hA, msI_17 hA, msI_18 hA, msI_19 hA, msI_20 hA, msI_21 hA, mlZ_2 hA, mlZ_7 hA, msZ_2 hA, msZ_7 hA, kI_some, kL_some, kR_some, kV_none, ne_eq, not_true_eq_false, not_false_eq_true, true_implies, false_implies, implies_true, true_and, and_true, ab_z01, or_true, true_or, reduceCtorEq, Option.some.injEq, Int.reduceEq, Int.reduceNe, Int.reduceLT, Int.reduceLE, Int.reduceNeg, Int.reduceAdd, Int.reduceSub, Int.reduceMul, Nat.reduceEqDiff, Nat.reduceAdd, Nat.reduceMul, Int.reduceToNat, ↓reduceIte, z0]
    rw [show w (2 + 6 * i + 1) = lw w i 1 from rfl]
    repeat (first | refine And.intro (by omega) ?_ | refine And.intro (i3 (by omega) (by omega)) ?_)
    refine ih _ (hE.ar (by decide)) (fun t d ht hd => ?_)
    rw [vu_same, vu_app]
    have hs : hasL w (t : Int) (d : Int) (i + 1) = (hasL w (t : Int) (d : Int) i || decide (lw w i 0 = (t : Int) ∧ lw w i 1 = (d : Int))) := rfl
    rw [hs]
    by_cases q : 100 * t + d = (100 * lw w i 0 + lw w i 1).toNat
    · rw [if_pos q, decide_eq_true (by omega), Bool.or_true]
      rfl
    · rw [if_neg q, decide_eq_false (by omega), Bool.or_false]
      exact h7 t d ht hd
  · rw [hp1.2.2.2.1 t d ht hd, wV_all.2.1]
    rfl
set_option maxRecDepth 100000 in
set_option maxHeartbeats 4000000 in
theorem mc_fault {d : Nat} {h : AbH} {m : Nat} {ad : Nat → Nat} {sc : Nat → Int} {ar : Nat → Nat → Int} {K : Option AbV → AbH → Prop} (hA : mA ad) {T : Nat → Int} {L : Nat} (hT : txV T L) (h4 : sc 4 = (L : Int)) (h3 : ar 3 = T) (hW : wds ar) (hw : wV (ar 0)) (kf : ∀ s' c, psT T L (ar 0) = (none, s', c) → ∀ sc' ar', mE RDs sc ar sc' ar' → ar' 0 = ar 0 → K (some (vI (s' : Int))) (mH h m ad sc' ar')) (kk : ∀ W' s' c, psT T L (ar 0) = (some W', s', c) → ∀ sc' ar', mE RDs sc ar sc' ar' → ar' 0 = ar 0 → K (some (vI (-1))) (mH h m ad sc' ar')) : Vm (d + 9) m_X10_fault [vR (some m)] (mH h m ad sc ar) K := by
  refine Vm.intro rfl (Nat.le_of_ble_eq_true rfl) (fun _ => B_X10_fault_0 ?_)
  simp only [mCV]
  refine mc_reads hA (g := false) hT h4 h3 hW hw (fun s' c e sc' ar' hE h5 h0 => ?_) (fun W' s' c e sc' ar' hE h10 h0 => ?_) <;> simp only [mCV, kI_some, kL_some, kR_some, kV_none, vu_app, mgR_0, mgR_3, mgR_12, mgR_13, mgR_14, mgR_16, mgR_17, mgR_18, mgR_19, mgR_20, mgR_21, mgR_2, mgR_7, mgI_1, mgI_4, mgI_5, mgI_6, mgI_8, mgI_9, mgI_10, mgI_11, mgI_15, mgI_22, mpI_1, mpI_4, mpI_5, mpI_6, mpI_8, mpI_9, mpI_10, mpI_11, mpI_15, mpI_22, mlI_0 hA, mlI_3 hA, mlI_12 hA, mlI_13 hA, mlI_14 hA, mlI_16 hA, mlI_17 hA, mlI_18 hA, mlI_19 hA, mlI_20 hA, mlI_21 hA, msI_0 hA, msI_3 hA, msI_12 hA, msI_13 hA, msI_14 hA, msI_16 hA, msI_17 hA, msI_18 hA, msI_19 hA, msI_20 hA, msI_21 hA, mlZ_2 hA, mlZ_7 hA, msZ_2 hA, msZ_7 hA, kI_some, kL_some, kR_some, kV_none, ne_eq, not_true_eq_false, not_false_eq_true, true_implies, false_implies, implies_true, true_and, and_true, ab_z01, or_true, true_or, reduceCtorEq, Option.some.injEq, Int.reduceEq, Int.reduceNe, Int.reduceLT, Int.reduceLE, Int.reduceNeg, Int.reduceAdd, Int.reduceSub, Int.reduceMul, Nat.reduceEqDiff, Nat.reduceAdd, Nat.reduceMul, Int.reduceToNat, ↓reduceIte]
  · rw [h5]
    exact kf s' c e _ _ hE (h0 rfl)
  · exact kk W' s' c e _ _ hE h0
set_option maxRecDepth 100000 in
set_option maxHeartbeats 4000000 in
theorem mc_tell {d : Nat} {h : AbH} {m : Nat} {ad : Nat → Nat} {sc : Nat → Int} {ar : Nat → Nat → Int} {K : Option AbV → AbH → Prop} (hA : mA ad) {T : Nat → Int} {L : Nat} (hT : txV T L) (h4 : sc 4 = (L : Int)) (h3 : ar 3 = T) (hW : wds ar) (hw : wV (ar 0)) (kf : ∀ s' c, psT T L (ar 0) = (none, s', c) → ∀ sc' ar', mE RDs sc ar sc' ar' → ar' 0 = ar 0 → K (some (vI (-4))) (mH h m ad sc' ar')) (kk : ∀ W' s' c, psT T L (ar 0) = (some W', s', c) → ∀ sc' ar', mE RDs sc ar sc' ar' → ar' 0 = W' → K (some (vI (c : Int))) (mH h m ad (va_up (va_up sc' 4 0) 1 0) ar')) : Vm (d + 9) m_X10_tell [vR (some m)] (mH h m ad sc ar) K := by
  refine Vm.intro rfl (Nat.le_of_ble_eq_true rfl) (fun _ => B_X10_tell_0 ?_)
  simp only [mCV]
  refine mc_reads hA (g := false) hT h4 h3 hW hw (fun s' c e sc' ar' hE h5 h0 => ?_) (fun W' s' c e sc' ar' hE h10 h0 => ?_) <;> simp only [mCV, kI_some, kL_some, kR_some, kV_none, vu_app, mgR_0, mgR_3, mgR_12, mgR_13, mgR_14, mgR_16, mgR_17, mgR_18, mgR_19, mgR_20, mgR_21, mgR_2, mgR_7, mgI_1, mgI_4, mgI_5, mgI_6, mgI_8, mgI_9, mgI_10, mgI_11, mgI_15, mgI_22, mpI_1, mpI_4, mpI_5, mpI_6, mpI_8, mpI_9, mpI_10, mpI_11, mpI_15, mpI_22, mlI_0 hA, mlI_3 hA, mlI_12 hA, mlI_13 hA, mlI_14 hA, mlI_16 hA, mlI_17 hA, mlI_18 hA, mlI_19 hA, mlI_20 hA, mlI_21 hA, msI_0 hA, msI_3 hA, msI_12 hA, msI_13 hA, msI_14 hA, msI_16 hA, msI_17 hA, msI_18 hA, msI_19 hA, msI_20 hA, msI_21 hA, mlZ_2 hA, mlZ_7 hA, msZ_2 hA, msZ_7 hA, kI_some, kL_some, kR_some, kV_none, ne_eq, not_true_eq_false, not_false_eq_true, true_implies, false_implies, implies_true, true_and, and_true, ab_z01, or_true, true_or, reduceCtorEq, Option.some.injEq, Int.reduceEq, Int.reduceNe, Int.reduceLT, Int.reduceLE, Int.reduceNeg, Int.reduceAdd, Int.reduceSub, Int.reduceMul, Nat.reduceEqDiff, Nat.reduceAdd, Nat.reduceMul, Int.reduceToNat, ↓reduceIte]
  · exact kf s' c e _ _ hE (h0 rfl)
  · have h0 : ar' 0 = ar 0 := h0
    refine mc_reads hA (g := true) hT ((hE.1 4 (by decide)).trans h4) ((hE.2 3 (by decide)).trans h3) (fun x j hx hj => by rw [hE.2 13 (by decide)]; exact hW x j hx hj) (by rw [h0]; exact hw) (fun s2 c2 e2 sc2 ar2 hE2 h52 h02 => ?_) (fun W2 s2 c2 e2 sc2 ar2 hE2 h102 h02 => ?_)
    · rw [h0, e] at e2
      cases e2
    · rw [h0, e] at e2
      cases e2
      simp only [mCV, kI_some, kL_some, kR_some, kV_none, vu_app, mgR_0, mgR_3, mgR_12, mgR_13, mgR_14, mgR_16, mgR_17, mgR_18, mgR_19, mgR_20, mgR_21, mgR_2, mgR_7, mgI_1, mgI_4, mgI_5, mgI_6, mgI_8, mgI_9, mgI_10, mgI_11, mgI_15, mgI_22, mpI_1, mpI_4, mpI_5, mpI_6, mpI_8, mpI_9, mpI_10, mpI_11, mpI_15, mpI_22, mlI_0 hA, mlI_3 hA, mlI_12 hA, mlI_13 hA, mlI_14 hA, mlI_16 hA, mlI_17 hA, mlI_18 hA, mlI_19 hA, mlI_20 hA, mlI_21 hA, msI_0 hA, msI_3 hA, msI_12 hA, msI_13 hA, msI_14 hA, msI_16 hA, msI_17 hA, msI_18 hA, msI_19 hA, msI_20 hA, msI_21 hA, mlZ_2 hA, mlZ_7 hA, msZ_2 hA, msZ_7 hA, kI_some, kL_some, kR_some, kV_none, ne_eq, not_true_eq_false, not_false_eq_true, true_implies, false_implies, implies_true, true_and, and_true, ab_z01, or_true, true_or, reduceCtorEq, Option.some.injEq, Int.reduceEq, Int.reduceNe, Int.reduceLT, Int.reduceLE, Int.reduceNeg, Int.reduceAdd, Int.reduceSub, Int.reduceMul, Nat.reduceEqDiff, Nat.reduceAdd, Nat.reduceMul, Int.reduceToNat, ↓reduceIte, h102]
      exact kk W' s' c e _ _ (hE.tr hE2) h02
