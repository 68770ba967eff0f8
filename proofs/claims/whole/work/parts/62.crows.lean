/-! what acts leave of a row: the cells behind it, and no tongue meets itself -/
def gd (W W' : Nat → Int) : Prop := (∀ j, 394 ≤ j → W' j = W j) ∧ (dg W → dg W')
theorem gd_ins {W : Nat → Int} {p : Nat} {f : Nat → Int} (hn : nl W ≤ 15) (hp : p ≤ nl W) : gd W (insW W (nl W) p f) := ⟨fun j hj => ins_out hp hn (Or.inr (by omega)), fun h t ht => by rw [ins_out hp hn (Or.inr (by omega))]; exact h t ht⟩
theorem gd_set {W : Nat → Int} {f t a b : Int} (hf : tg f) (ht : tg t) (hft : f ≠ t) : gd W (setM W f t a b) := by
  have f1 := hf.1
  have f2 := hf.2
  have t1 := ht.1
  have t2 := ht.2
  refine ⟨fun j hj => ?_, fun h i hi => ?_⟩
  · unfold setM
    rw [vu_ne (by omega), vu_ne (by omega)]
  · unfold setM
    rw [vu_ne (by omega), vu_ne (by omega)]
    exact h i hi
theorem gd_all {W : Nat → Int} : gd W (allW W) := ⟨fun j hj => if_neg (by omega), fun _ t ht => if_pos (Or.inr (Or.inr (by omega)))⟩
theorem gd_lon {W T : Nat → Int} {f t : Int} {p n q r : Nat} (hno : no W ≤ 11) (hn : n ≤ 8) (hr : r ≤ 10) : gd W (lonW W T f t p n q r) := by
  refine ⟨fun j hj => ?_, fun h i hi => ?_⟩
  · rw [lonW_app, if_neg (by omega), if_neg (by omega), if_neg (by omega), if_neg (by omega), if_neg (by omega), if_neg (by omega), if_neg (by omega)]
  · rw [lonW_app, if_neg (by omega), if_neg (by omega), if_neg (by omega), if_neg (by omega), if_neg (by omega), if_neg (by omega), if_neg (by omega)]
    exact h i hi
theorem gd_lnd {W : Nat → Int} {k : Nat} {f t : Int} {l : List Int} (hno : no W ≤ 11) (hl : l.length ≤ 10) : gd W (lndW W k f t l) := by
  refine ⟨fun j hj => ?_, fun h i hi => ?_⟩
  · rw [lndW_app, if_neg (by omega), if_neg (by omega), if_neg (by omega), if_neg (by omega), if_neg (by omega), if_neg (by omega)]
  · rw [lndW_app, if_neg (by omega), if_neg (by omega), if_neg (by omega), if_neg (by omega), if_neg (by omega), if_neg (by omega)]
    exact h i hi
theorem gd_del {W : Nat → Int} {k : Nat} (hw : wV W) : gd W (delW W k) := by
  obtain ⟨n1, n2⟩ := hw.nlw
  refine ⟨fun j hj => ?_, fun h i hi => ?_⟩
  · rw [del_app, if_neg (by omega), if_neg (by omega)]
  · rw [del_app, if_neg (by omega), if_neg (by omega)]
    exact h i hi
theorem gd_delO {W : Nat → Int} {k : Nat} (hw : wV W) : gd W (delO W k) := by
  obtain ⟨n1, n2⟩ := hw.now
  refine ⟨fun j hj => ?_, fun h i hi => ?_⟩
  · rw [delO_app, if_neg (by omega), if_neg (by omega)]
  · rw [delO_app, if_neg (by omega), if_neg (by omega)]
    exact h i hi
theorem gd.tr {W W' W'' : Nat → Int} (a : gd W W') (b : gd W' W'') : gd W W'' := ⟨fun j hj => (b.1 j hj).trans (a.1 j hj), fun h => b.2 (a.2 h)⟩
theorem psLaw5_gd {T : Nat → Int} {L : Nat} {W W' : Nat → Int} {t d x y v : Int} {s s' : Nat} (hn : nl W ≤ 15) (h : psLaw5 T L W t d x y v s = (some W', s')) : gd W W' := by
  unfold psLaw5 at h
  split at h
  · cases h
  · cases h
    exact gd_ins hn (posL_le _ _ _ _)
theorem psLaw4_gd {T : Nat → Int} {L : Nat} {W W' : Nat → Int} {t d x y : Int} {s s' : Nat} (hn : nl W ≤ 15) (h : psLaw4 T L W t d x y s = (some W', s')) : gd W W' := by
  unfold psLaw4 at h
  split at h
  · cases h
    exact gd_ins hn (posL_le _ _ _ _)
  · split at h
    · exact psLaw5_gd hn h
    · split at h
      · exact psLaw5_gd hn h
      · cases h
theorem psLaw_gd {T : Nat → Int} {L : Nat} {W W' : Nat → Int} {s s' : Nat} (hn : nl W ≤ 15) (h : psLaw T L W s = (some W', s')) : gd W W' := by
  unfold psLaw at h
  split at h
  · unfold psLaw1 at h
    split at h
    · unfold psLaw2 at h
      split at h
      · cases h
      · unfold psLaw3 at h
        split at h
        · exact psLaw4_gd hn h
        · split at h
          · cases h
          · exact psLaw4_gd hn h
    · cases h
  · cases h
theorem psC_gd {T : Nat → Int} {L : Nat} {W W' : Nat → Int} {s s' : Nat} (hs : s ≤ L) (hw : wV W) (h : psC T L W s = (some W', s')) : gd W W' := by
  obtain ⟨n1, n2⟩ := hw.nlw
  obtain ⟨n3, n4⟩ := hw.now
  unfold psC at h
  split at h
  · cases h
    exact gd_all
  · split at h
    · split at h
      · cases h
      · exact psLaw_gd (by omega) h
    · split at h
      · obtain ⟨f, t, s2, hf, ht, hft, hs2, h⟩ := psTwo_V (nx_le hs) h
        unfold psMeet2 at h
        split at h
        · unfold psMeet3 at h
          split at h
          · cases h
            exact gd_set hf ht hft
          · cases h
        · cases h
      · split at h
        · split at h
          · cases h
          · obtain ⟨f, t, s2, hf, ht, hft, hs2, h⟩ := psTwo_V (nx_le hs) h
            unfold psLoan2 at h
            split at h
            · rename_i c1
              have e1 := tkE_le (T := T) hs2
              unfold psLoan3 at h
              split at h
              · cases h
                exact gd_lon (by omega) (by omega) (by omega)
              · split at h
                · cases h
                  exact gd_lon (by omega) (by omega) (by omega)
                · cases h
            · cases h
        · cases h
theorem psR_gd {T : Nat → Int} {L : Nat} (hT : txV T L) : ∀ {n : Nat} {W W' : Nat → Int} {s s' c c' : Nat}, s ≤ L → wV W → psR T L n W s c = (some W', s', c') → gd W W'
  | 0, W, W', s, s', c, c', hs, hw, h => by cases h
  | n + 1, W, W', s, s', c, c', hs, hw, h => by
    cases hc : psC T L W s with
    | mk o s1 =>
      cases o with
      | none =>
        rw [psR_none hc] at h
        cases h
      | some W1 =>
        rw [psR_some hc] at h
        obtain ⟨v1, v2⟩ := psC_V hT hs hw hc
        have g1 := psC_gd hs hw hc
        unfold psA at h
        split at h
        · cases h
          exact g1
        · split at h
          · cases h
          · exact g1.tr (psR_gd hT (nx_le v2) v1 h)
theorem psT_gd {T : Nat → Int} {L : Nat} {W W' : Nat → Int} {s' c' : Nat} (hT : txV T L) (hw : wV W) (h : psT T L W = (some W', s', c')) : gd W W' := psR_gd hT (skp_le (Nat.zero_le _)).2 hw h
theorem lnd_word {R : Nat → Int} {k : Nat} {f t : Int} {l : List Int} (hv : loanV R k) : word (lndW R k f t l) (no R) = word R k := by
  obtain ⟨g1, g2, g3, g4, g5, g6, g7⟩ := hv
  unfold word
  rw [lndW_w ⟨by decide, by decide⟩ (by decide)]
  refine List.map_congr_left (fun i hi => ?_)
  have := List.mem_range.mp hi
  exact lndW_w (by omega) (by omega)
theorem map_getD (l : List Int) : (List.range l.length).map (fun i => l.getD i 0) = l := by
  refine List.ext_getElem (by rw [List.length_map, List.length_range]) (fun i h1 h2 => ?_)
  rw [List.getElem_map, List.getElem_range]
  simp only [List.getD, List.getElem?_eq_getElem h2, Option.getD_some]
theorem lnd_wend {R : Nat → Int} {k : Nat} {f t : Int} {l : List Int} : wend (lndW R k f t l) (no R) = l := by
  unfold wend
  rw [lndW_3, Int.toNat_natCast]
  have : (List.range l.length).map (fun i => lo (lndW R k f t l) (no R) (12 + i)) = (List.range l.length).map (fun i => l.getD i 0) := List.map_congr_left (fun i hi => lndW_e (List.mem_range.mp hi))
  rw [this, map_getD]
/-- the rows behind one more act -/
def prA (pr : Nat → Nat → Int) (u : Nat) (w : Nat → Int) (i : Nat) : Nat → Int := if u < 8 then (if i = u then w else pr i) else (if i = 7 then w else pr (i + 1))
set_option maxRecDepth 100000 in
set_option maxHeartbeats 4000000 in
theorem cp_act {d : Nat} {h : AbH} {K : Option AbV → AbH → Prop} {A : Nat → Nat} {M : Nat → Prop} {w : Nat → Int} {u : Nat} {pr : Nat → Nat → Int} {kv : Nat → Option (Nat → Int)} {T : Nat → Int} {L : Nat} (c : CS A M h w u pr kv T L) {a : Nat} {W : Nat → Int} (ca : CW (PQ A M) h a W) (hg : dg W) (kk : ∀ h1, CS A M h1 W (kpU u) (prA pr u w) kv T L → Xt (QA A) h h1 → hpO h1 (A 0) = some (8, oF A a) → CW (PQ A M) h1 a W → K none h1) : Vm (d + 2) m_X9_act [vR (some (A 0)), vR (some a)] h K := by
  obtain ⟨s0, ⟨nw, o1, cw, hdg⟩, ⟨g, ps, u8, gr, gx⟩, s3, s4, s5, s6, s7⟩ := c
  have hA := s0.1
  refine Vm.intro rfl (Nat.le_of_ble_eq_true rfl) (fun _ => B_X9_act_0 ?_)
  obtain ⟨al, ao, af, ae, ob⟩ := cw.ob
  refine gR_i o1 rfl (gR_i o1 rfl (cv_i ps.1 (cm_padd ps u8 ⟨_, ob⟩ (fun i hi x hx => (gx i hi x hx).2) (fun h1 g' ps1 hg' x1 k7 => ?_))))
  simp only [kI_some, kL_some, kR_some, kV_none, ne_eq, not_true_eq_false, not_false_eq_true, true_implies, false_implies, implies_true, true_and, and_true, ab_z01, or_true, true_or, reduceCtorEq, Option.some.injEq, Int.reduceEq, Int.reduceNe, Int.reduceLT, Int.reduceLE, Int.reduceNeg, Int.reduceAdd, Int.reduceSub, Int.reduceMul, Nat.reduceEqDiff, Nat.reduceAdd, Nat.reduceMul, Int.reduceToNat, ↓reduceIte]
  have x1' : Xt (SA A [0, 1, 2]) h h1 := x1.mono (fun q z => by
    rcases z with z | z
    · exact ⟨1, by decide, z⟩
    · exact ⟨2, by decide, z⟩)
  have o1' : hpO h1 (A 0) = some (8, oF A nw) := x1.O (fun z => by
    rcases z with z | z
    · exact absurd (hA 0 1 (by decide) (by decide) z) (by decide)
    · exact absurd (hA 0 2 (by decide) (by decide) z) (by decide)) o1
  refine p_i o1' (by show 0 < 7; decide) ?_
  have x2 : Xt (SA A [0, 1, 2]) h1 (hsO h1 (A 0) (8, oF A a)) := xt_O (Or.inl ⟨0, by decide, rfl⟩)
  have x := x1'.tr x2
  have hF : ∀ q, SA A [0, 1, 2] q → PQ A M q := fun q z => Or.inl (sa_qa (by decide) q z)
  have nn : ∀ i, i < 19 → i ∉ [0, 1, 2] → ¬ SA A [0, 1, 2] (A i) := fun i hi hn => sa_not hA (by decide) hi hn
  have o2 : hpO (hsO h1 (A 0) (8, oF A a)) (A 0) = some (8, oF A a) := by rw [hO_O, if_pos rfl]
  have ca' := ca.mv (x.mono hF)
  refine kk _ ⟨s0.mv x, ⟨a, o2, ca', hg⟩, ⟨g', ⟨?_, ps1.2⟩, ?_, fun i hi => ?_, fun i hi y hy => ?_⟩, s3.mv x hF (nn _ (by decide) (by decide)), s4.mv x (nn _ (by decide) (by decide)) (nn _ (by decide) (by decide)), s5.mv x (nn _ (by decide) (by decide)) (nn _ (by decide) (by decide)) (nn _ (by decide) (by decide)), s6.mv x (nn _ (by decide) (by decide)) (nn _ (by decide) (by decide)) (nn _ (by decide) (by decide)) (nn _ (by decide) (by decide)) (nn _ (by decide) (by decide)), s7.mv x (nn _ (by decide) (by decide)) (nn _ (by decide) (by decide)) (nn _ (by decide) (by decide)) (nn _ (by decide) (by decide)) (nn _ (by decide) (by decide))⟩ (x.mono (sa_qa (by decide))) o2 ca'
  · have e : (if u < 8 then u + 1 else 8) = kpU u := by
      unfold kpU
      by_cases z : u < 8
      · rw [if_pos z, if_neg (by omega)]
      · rw [if_neg z, if_pos (by omega)]
    rw [← e]
    rw [hO_O, if_neg (fun z => absurd (hA 1 0 (by decide) (by decide) z) (by decide))]
    exact ps1.1
  · unfold kpU
    split <;> omega
  · have hi8 : i < 8 := by unfold kpU at hi; split at hi <;> omega
    rw [hg' i hi8]
    unfold pAdd prA
    by_cases z : u < 8
    · rw [if_pos z, if_pos z]
      by_cases z2 : i = u
      · rw [if_pos z2, if_pos z2]
        exact ⟨nw, rfl, cw.mv (x.mono hF), hdg⟩
      · rw [if_neg z2, if_neg z2]
        obtain ⟨b, b1, b2, b3⟩ := gr i (by unfold kpU at hi; split at hi <;> omega)
        exact ⟨b, b1, b2.mv (x.mono hF), b3⟩
    · rw [if_neg z, if_neg z]
      by_cases z2 : i = 7
      · rw [if_pos z2, if_pos z2]
        exact ⟨nw, rfl, cw.mv (x.mono hF), hdg⟩
      · rw [if_neg z2, if_neg z2]
        obtain ⟨b, b1, b2, b3⟩ := gr (i + 1) (by omega)
        exact ⟨b, b1, b2.mv (x.mono hF), b3⟩
  · have key : ∀ y, (y = nw ∨ ∃ j, j < 8 ∧ g j = some y) → ¬ PQ A M y ∧ ∃ fs, hpO (hsO h1 (A 0) (8, oF A a)) y = some (7, fs) := by
      rintro y (e | ⟨j, hj, e⟩)
      · rw [e]
        exact ⟨cw.np, _, x.O (fun z => cw.np (hF _ z)) ob⟩
      · obtain ⟨q1, fs, q2⟩ := gx j hj y e
        exact ⟨q1, fs, x.O (fun z => q1 (hF _ z)) q2⟩
    rw [hg' i hi] at hy
    unfold pAdd at hy
    by_cases z : u < 8
    · rw [if_pos z] at hy
      by_cases z2 : i = u
      · rw [if_pos z2] at hy
        exact key y (Or.inl (by simpa using hy.symm))
      · rw [if_neg z2] at hy
        exact key y (Or.inr ⟨i, hi, hy⟩)
    · rw [if_neg z] at hy
      by_cases z2 : i = 7
      · rw [if_pos z2] at hy
        exact key y (Or.inl (by simpa using hy.symm))
      · rw [if_neg z2] at hy
        exact key y (Or.inr ⟨i + 1, by omega, hy⟩)
