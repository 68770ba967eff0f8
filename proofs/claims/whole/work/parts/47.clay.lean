/-! what the windows tell, and the layers, in the class -/
def WO (h : AbH) (aw wf wl : Nat) (w : Nat → Int) (k : Nat) : Prop := ∃ (n : Nat) (A B : Nat → Int), WN h aw wf wl (n : Int) A B ∧ n = sN (fitW w k) 100 ∧ n ≤ 17 ∧ (∀ j, j < n → A j = winB (fitW w k) j ∧ B j = winE (fitW w k) j) ∧ (0 < n → B (n - 1) = lstF (fitW w k))
theorem WN.mv {P : Nat → Prop} {h h' : AbH} {aw wf wl : Nat} {n : Int} {F G : Nat → Int} (c : WN h aw wf wl n F G) (x : Xt P h h') (h1 : ¬ P aw) (h2 : ¬ P wf) (h3 : ¬ P wl) : WN h' aw wf wl n F G := ⟨x.O h1 c.1, x.I h2 c.2.1, x.I h3 c.2.2.1, c.2.2.2⟩
theorem WO.mv {P : Nat → Prop} {h h' : AbH} {aw wf wl k : Nat} {w : Nat → Int} (c : WO h aw wf wl w k) (x : Xt P h h') (h1 : ¬ P aw) (h2 : ¬ P wf) (h3 : ¬ P wl) : WO h' aw wf wl w k := by
  obtain ⟨n, A, B, c1, c2⟩ := c
  exact ⟨n, A, B, c1.mv x h1 h2 h3, c2⟩
theorem WO.WN {h : AbH} {aw wf wl k : Nat} {w : Nat → Int} (c : WO h aw wf wl w k) : ∃ n F G, WN h aw wf wl n F G := by
  obtain ⟨n, A, B, c1, c2⟩ := c
  exact ⟨_, A, B, c1⟩
theorem cc_wof2 {d : Nat} {h : AbH} {K : Option AbV → AbH → Prop} {P : Nat → Prop} {a b k aw wf wl : Nat} {w : Nat → Int} (cw : CW P h a w) (hk : k < no w) (hb : hpO h b = some (2, loF w k)) (hbP : ¬ P b) (wn : ∃ n F G, WN h aw wf wl n F G) (hP : ∀ q, W3 aw wf wl q → P q) (kk : ∀ h', WO h' aw wf wl w k → Xt (W3 aw wf wl) h h' → K (some (vR (some aw))) h') : Vm (d + 5) m_X7_of [vR (some aw), vR (some a), vR (some b)] h K := by
  obtain ⟨n0, F0, G0, wn⟩ := wn
  exact cc_wof cw hk hb hbP wn hP (fun h' n A B c1 c2 c3 c4 c5 c6 => kk h' ⟨n, A, B, c1, c3, c4, c5, c6⟩ c2)
set_option maxRecDepth 100000 in
set_option maxHeartbeats 4000000 in
theorem cc_wearliest {d : Nat} {h : AbH} {K : Option AbV → AbH → Prop} {aw wf wl k : Nat} {w : Nat → Int} (c : WO h aw wf wl w k) (kk : K (some (vI (fsD w k))) h) : Vm (d + 3) m_X7_earliest [vR (some aw)] h K := by
  obtain ⟨n, A, B, c1, c2, c3, c4, c5⟩ := c
  refine Vm.intro rfl (Nat.le_of_ble_eq_true rfl) (fun _ => B_X7_earliest_0 ?_)
  refine cv_i c1.1 (cc_wfirst c1 (by omega) ?_)
  simp only [kI_some, kL_some, kR_some, kV_none, ne_eq, not_true_eq_false, not_false_eq_true, true_implies, false_implies, implies_true, true_and, and_true, ab_z01, or_true, true_or, reduceCtorEq, Option.some.injEq, Int.reduceEq, Int.reduceNe, Int.reduceLT, Int.reduceLE, Int.reduceNeg, Int.reduceAdd, Int.reduceSub, Int.reduceMul, Nat.reduceEqDiff, Nat.reduceAdd, Nat.reduceMul, Int.reduceToNat, ↓reduceIte]
  have e : wAt (n : Int) A 0 = fsD w k := by
    unfold wAt fsD
    by_cases q : 0 < n
    · rw [if_pos (by omega)]
      exact (c4 0 q).1
    · rw [if_neg (by omega), winB_no (by omega)]
  rw [e]
  exact kk
set_option maxRecDepth 100000 in
set_option maxHeartbeats 4000000 in
theorem cc_wlatest {d : Nat} {h : AbH} {K : Option AbV → AbH → Prop} {aw wf wl k : Nat} {w : Nat → Int} (c : WO h aw wf wl w k) (kk : K (some (vI (lsD w k))) h) : Vm (d + 3) m_X7_latest [vR (some aw)] h K := by
  obtain ⟨n, A, B, c1, c2, c3, c4, c5⟩ := c
  refine Vm.intro rfl (Nat.le_of_ble_eq_true rfl) (fun _ => B_X7_latest_0 ?_)
  refine gI_i c1.1 rfl ⟨i3 (by omega) (by omega), ?_⟩
  refine cv_i c1.1 (cc_wlast c1 (by omega) ?_)
  simp only [kI_some, kL_some, kR_some, kV_none, ne_eq, not_true_eq_false, not_false_eq_true, true_implies, false_implies, implies_true, true_and, and_true, ab_z01, or_true, true_or, reduceCtorEq, Option.some.injEq, Int.reduceEq, Int.reduceNe, Int.reduceLT, Int.reduceLE, Int.reduceNeg, Int.reduceAdd, Int.reduceSub, Int.reduceMul, Nat.reduceEqDiff, Nat.reduceAdd, Nat.reduceMul, Int.reduceToNat, ↓reduceIte]
  have e : wAt (n : Int) B ((n : Int) - 1) = lsD w k := by
    unfold wAt
    by_cases q : 0 < n
    · rw [if_pos (by omega), show ((n : Int) - 1).toNat = n - 1 by omega]
      exact c5 q
    · rw [if_neg (by omega)]
      refine (lsD_no ?_).symm
      unfold fsD
      exact winB_no (by omega)
  rw [e]
  exact kk
set_option maxRecDepth 100000 in
set_option maxHeartbeats 4000000 in
theorem cc_wkind {d : Nat} {h : AbH} {K : Option AbV → AbH → Prop} {aw wf wl k : Nat} {w : Nat → Int} (c : WO h aw wf wl w k) (kk : K (some (vI (kndF (fitW w k)))) h) : Vm (d + 1) m_X7_kind [vR (some aw)] h K := by
  obtain ⟨n, A, B, c1, c2, c3, c4, c5⟩ := c
  refine Vm.intro rfl (Nat.le_of_ble_eq_true rfl) (fun _ => B_X7_kind_0 ?_)
  refine gI_i c1.1 rfl ?_
  have e : (if (2 : Int) < (n : Int) then (2 : Int) else (n : Int)) = kndF (fitW w k) := by
    unfold kndF
    rw [← c2]
    by_cases q : (2 : Int) < (n : Int)
    · rw [if_pos q, if_neg (by omega), if_neg (by omega)]
    · rw [if_neg q]
      by_cases q0 : n = 0
      · rw [if_pos q0, q0]; rfl
      · rw [if_neg q0]
        by_cases q1 : n = 1
        · rw [if_pos q1, q1]; rfl
        · rw [if_neg q1]; omega
  rw [e]
  exact kk
/-- the layers' object -/
def LY (h : AbH) (ay yi yf yl yy : Nat) (I F L Y : Nat → Int) : Prop := hpO h ay = some (1, [vR (some yi), vR (some yf), vR (some yl), vR (some yy)]) ∧ hpI h yi = some (12, I) ∧ hpI h yf = some (12, F) ∧ hpI h yl = some (12, L) ∧ hpI h yy = some (12, Y)
def Y4 (yi yf yl yy : Nat) (q : Nat) : Prop := q = yi ∨ q = yf ∨ q = yl ∨ q = yy
def yD (yi yf yl yy : Nat) : Prop := yi ≠ yf ∧ yi ≠ yl ∧ yi ≠ yy ∧ yf ≠ yl ∧ yf ≠ yy ∧ yl ≠ yy
theorem LY.mv {P : Nat → Prop} {h h' : AbH} {ay yi yf yl yy : Nat} {I F L Y : Nat → Int} (c : LY h ay yi yf yl yy I F L Y) (x : Xt P h h') (h1 : ¬ P ay) (h2 : ∀ q, Y4 yi yf yl yy q → ¬ P q) : LY h' ay yi yf yl yy I F L Y := ⟨x.O h1 c.1, x.I (h2 _ (Or.inl rfl)) c.2.1, x.I (h2 _ (Or.inr (Or.inl rfl))) c.2.2.1, x.I (h2 _ (Or.inr (Or.inr (Or.inl rfl)))) c.2.2.2.1, x.I (h2 _ (Or.inr (Or.inr (Or.inr rfl)))) c.2.2.2.2⟩
theorem LY.sI {h : AbH} {ay yi yf yl yy : Nat} {I F L Y : Nat → Int} (c : LY h ay yi yf yl yy I F L Y) (d : yD yi yf yl yy) (I' : Nat → Int) : LY (hsI h yi (12, I')) ay yi yf yl yy I' F L Y := by
  obtain ⟨d1, d2, d3, d4, d5, d6⟩ := d
  obtain ⟨c1, c2, c3, c4, c5⟩ := c
  exact ⟨c1, by rw [hI_I, if_pos rfl], by rw [hI_I, if_neg (fun z => d1 z.symm)]; exact c3, by rw [hI_I, if_neg (fun z => d2 z.symm)]; exact c4, by rw [hI_I, if_neg (fun z => d3 z.symm)]; exact c5⟩
theorem LY.sF {h : AbH} {ay yi yf yl yy : Nat} {I F L Y : Nat → Int} (c : LY h ay yi yf yl yy I F L Y) (d : yD yi yf yl yy) (F' : Nat → Int) : LY (hsI h yf (12, F')) ay yi yf yl yy I F' L Y := by
  obtain ⟨d1, d2, d3, d4, d5, d6⟩ := d
  obtain ⟨c1, c2, c3, c4, c5⟩ := c
  exact ⟨c1, by rw [hI_I, if_neg d1]; exact c2, by rw [hI_I, if_pos rfl], by rw [hI_I, if_neg (fun z => d4 z.symm)]; exact c4, by rw [hI_I, if_neg (fun z => d5 z.symm)]; exact c5⟩
theorem LY.sL {h : AbH} {ay yi yf yl yy : Nat} {I F L Y : Nat → Int} (c : LY h ay yi yf yl yy I F L Y) (d : yD yi yf yl yy) (L' : Nat → Int) : LY (hsI h yl (12, L')) ay yi yf yl yy I F L' Y := by
  obtain ⟨d1, d2, d3, d4, d5, d6⟩ := d
  obtain ⟨c1, c2, c3, c4, c5⟩ := c
  exact ⟨c1, by rw [hI_I, if_neg d2]; exact c2, by rw [hI_I, if_neg d4]; exact c3, by rw [hI_I, if_pos rfl], by rw [hI_I, if_neg (fun z => d6 z.symm)]; exact c5⟩
theorem LY.sY {h : AbH} {ay yi yf yl yy : Nat} {I F L Y : Nat → Int} (c : LY h ay yi yf yl yy I F L Y) (d : yD yi yf yl yy) (Y' : Nat → Int) : LY (hsI h yy (12, Y')) ay yi yf yl yy I F L Y' := by
  obtain ⟨d1, d2, d3, d4, d5, d6⟩ := d
  obtain ⟨c1, c2, c3, c4, c5⟩ := c
  exact ⟨c1, by rw [hI_I, if_neg d3]; exact c2, by rw [hI_I, if_neg d5]; exact c3, by rw [hI_I, if_neg d6]; exact c4, by rw [hI_I, if_pos rfl]⟩
theorem xt_Y {h : AbH} {yi yf yl yy q : Nat} {c : Nat × (Nat → Int)} (hq : Y4 yi yf yl yy q) : Xt (Y4 yi yf yl yy) h (hsI h q c) := xt_I (Or.inl hq)
def oB (I F L : Nat → Int) (i j : Nat) : Bool := decide (F i ≠ -1 ∧ F j ≠ -1 ∧ I i = I j ∧ L i < F j)
theorem oB_iff {I F L : Nat → Int} {i j : Nat} : oB I F L i j = true ↔ F i ≠ -1 ∧ F j ≠ -1 ∧ I i = I j ∧ L i < F j := decide_eq_true_iff
set_option maxRecDepth 100000 in
set_option maxHeartbeats 4000000 in
theorem cc_yolder {d : Nat} {h : AbH} {K : Option AbV → AbH → Prop} {ay yi yf yl yy : Nat} {I F L Y : Nat → Int} {i j : Nat} (c : LY h ay yi yf yl yy I F L Y) (hi : i < 12) (hj : j < 12) (kk : K (some (vI (b2i (oB I F L i j)))) h) : Vm (d + 2) m_X2_isOlder [vR (some ay), vI (i : Int), vI (j : Int)] h K := by
  obtain ⟨c1, c2, c3, c4, c5⟩ := c
  have bad : ¬ (F i ≠ -1 ∧ F j ≠ -1 ∧ I i = I j ∧ L i < F j) → K (some (vI 0)) h := fun q => by
    rw [b2i_f (fun z => q (oB_iff.mp z))] at kk
    exact kk
  refine Vm.intro rfl (Nat.le_of_ble_eq_true rfl) (fun _ => B_X2_isOlder_0 ?_)
  refine cc_within (fun _ => ?_) (fun q => absurd (by omega) q)
  simp only [kI_some, kL_some, kR_some, kV_none, ne_eq, not_true_eq_false, not_false_eq_true, true_implies, false_implies, implies_true, true_and, and_true, ab_z01, or_true, true_or, reduceCtorEq, Option.some.injEq, Int.reduceEq, Int.reduceNe, Int.reduceLT, Int.reduceLE, Int.reduceNeg, Int.reduceAdd, Int.reduceSub, Int.reduceMul, Nat.reduceEqDiff, Nat.reduceAdd, Nat.reduceMul, Int.reduceToNat, ↓reduceIte]
  refine cc_within (fun _ => ?_) (fun q => absurd (by omega) q)
  simp only [kI_some, kL_some, kR_some, kV_none, ne_eq, not_true_eq_false, not_false_eq_true, true_implies, false_implies, implies_true, true_and, and_true, ab_z01, or_true, true_or, reduceCtorEq, Option.some.injEq, Int.reduceEq, Int.reduceNe, Int.reduceLT, Int.reduceLE, Int.reduceNeg, Int.reduceAdd, Int.reduceSub, Int.reduceMul, Nat.reduceEqDiff, Nat.reduceAdd, Nat.reduceMul, Int.reduceToNat, ↓reduceIte]
  refine gR_i c1 rfl (lI_i c3 (by omega) (by omega) ?_)
  rw [Int.toNat_natCast]
  refine ⟨fun q => bad (fun z => z.1 q), fun q1 => ?_⟩
  refine gR_i c1 rfl (lI_i c3 (by omega) (by omega) ?_)
  rw [Int.toNat_natCast]
  refine ⟨fun q2 => ?_, fun q => bad (fun z => q z.2.1)⟩
  refine gR_i c1 rfl (lI_i c2 (by omega) (by omega) ?_)
  rw [Int.toNat_natCast]
  refine gR_i c1 rfl (lI_i c2 (by omega) (by omega) ?_)
  rw [Int.toNat_natCast]
  refine ⟨fun q => bad (fun z => q z.2.2.1), fun q3 => ?_⟩
  refine gR_i c1 rfl (lI_i c4 (by omega) (by omega) ?_)
  rw [Int.toNat_natCast]
  refine gR_i c1 rfl (lI_i c3 (by omega) (by omega) ?_)
  rw [Int.toNat_natCast]
  refine ⟨fun q => bad (fun z => by omega), fun q => ?_⟩
  rw [b2i_t (oB_iff.mpr ⟨q1, q2, Classical.byContradiction q3, by omega⟩)] at kk
  exact kk
set_option maxRecDepth 100000 in
set_option maxHeartbeats 4000000 in
theorem cc_ybefore {d : Nat} {h : AbH} {K : Option AbV → AbH → Prop} {ay yi yf yl yy : Nat} {I F L Y : Nat → Int} {k : Nat} {y : Nat → Nat} (c : LY h ay yi yf yl yy I F L Y) (hy : ∀ i, i < 12 → Y i = (y i : Int)) (hk : k < 12) (kk : K (some (vI (mxN (fun i => if oB I F L i k = true then y i else 0) 12 : Int))) h) : Vm (d + 3) m_X2_greatestBefore [vR (some ay), vI (k : Int)] h K := by
  obtain ⟨c1, c2, c3, c4, c5⟩ := id c
  refine Vm.intro rfl (Nat.le_of_ble_eq_true rfl) (fun _ => B_X2_greatestBefore_0 ?_)
  refine lp_up (P := fun i => Vx (d + 3) m_X2_greatestBefore 0 0 4 [some (vR (some ay)), some (vI (k : Int)), some (vI (mxN (fun i => if oB I F L i k = true then y i else 0) i : Int)), some (vI (i : Int))] [] h K) (n := 12) ?_ ?_ 0 (by omega)
  · exact B_X2_greatestBefore_4 ⟨fun _ => kk, fun z => absurd (by decide) z⟩
  · intro i hi ih
    refine B_X2_greatestBefore_4 ⟨fun z => absurd z (by omega), fun _ => ?_⟩
    refine cv_i c1 (cc_yolder c hi hk ?_)
    simp only [kI_some, kL_some, kR_some, kV_none, ne_eq, not_true_eq_false, not_false_eq_true, true_implies, false_implies, implies_true, true_and, and_true, ab_z01, or_true, true_or, reduceCtorEq, Option.some.injEq, Int.reduceEq, Int.reduceNe, Int.reduceLT, Int.reduceLE, Int.reduceNeg, Int.reduceAdd, Int.reduceSub, Int.reduceMul, Nat.reduceEqDiff, Nat.reduceAdd, Nat.reduceMul, Int.reduceToNat, ↓reduceIte]
    have hs : mxN (fun i => if oB I F L i k = true then y i else 0) (i + 1) = if mxN (fun i => if oB I F L i k = true then y i else 0) i < (if oB I F L i k = true then y i else 0) then (if oB I F L i k = true then y i else 0) else mxN (fun i => if oB I F L i k = true then y i else 0) i := rfl
    rw [hs] at ih
    cases hb : oB I F L i k with
    | false =>
      rw [hb, if_neg (show ¬ false = true by decide), if_neg (by omega)] at ih
      exact ⟨fun _ => ⟨i3 (by omega) (by omega), ih⟩, fun z => absurd rfl z⟩
    | true =>
      rw [hb, if_pos rfl] at ih
      refine ⟨fun z => absurd z (by decide), fun _ => ?_⟩
      refine gR_i c1 rfl (lI_i c5 (by omega) (by omega) ?_)
      rw [Int.toNat_natCast, hy i hi]
      refine ⟨i3 (by omega) (by omega), ?_⟩
      by_cases q : mxN (fun i => if oB I F L i k = true then y i else 0) i < y i
      · rw [if_pos q] at ih
        rw [if_pos (by omega)]
        exact ih
      · rw [if_neg q] at ih
        rw [if_neg (by omega)]
        exact ih
theorem mxN_cut {g : Nat → Nat} {n : Nat} : ∀ m, n ≤ m → (∀ i, n ≤ i → i < m → g i = 0) → mxN g m = mxN g n
  | 0, h, _ => by rw [show n = 0 by omega]
  | m + 1, h, hp => by
    by_cases e : n = m + 1
    · rw [e]
    · show (if mxN g m < g m then g m else mxN g m) = mxN g n
      rw [hp m (by omega) (by omega), if_neg (by omega), mxN_cut m (by omega) (fun i h1 h2 => hp i h1 (by omega))]
/-- first and last dates stand -/
def yFl (w : Nat → Int) (I F L : Nat → Int) : Prop := ∀ k, k < 12 → (k < no w → I k = lo w k 1 ∧ F k = fsD w k ∧ L k = lsD w k) ∧ (¬ k < no w → F k = -1)
theorem oB_old {w : Nat → Int} {I F L : Nat → Int} (hf : yFl w I F L) {i j : Nat} (hi : i < 12) (hj : j < no w) (hj2 : j < 12) : oB I F L i j = true ↔ i < no w ∧ oldB w i j = true := by
  rw [oB_iff]
  obtain ⟨j1, j2, j3⟩ := (hf j hj2).1 hj
  by_cases q : i < no w
  · obtain ⟨i1, i2, i3⟩ := (hf i hi).1 q
    rw [oldB_iff, i1, i2, i3, j1, j2]
    exact ⟨fun z => ⟨q, z.2.2.1, z.1, z.2.1, z.2.2.2⟩, fun z => ⟨z.2.2.1, z.2.2.2.1, z.2.1, z.2.2.2.2⟩⟩
  · have := (hf i hi).2 q
    exact ⟨fun z => absurd this z.1, fun z => absurd z.1 q⟩
def LO (h : AbH) (ay yi yf yl yy : Nat) (w : Nat → Int) : Prop := ∃ I F L Y, LY h ay yi yf yl yy I F L Y ∧ yFl w I F L ∧ ∀ k, k < 12 → Y k = if k < no w then (lay w k : Int) else 0
set_option maxRecDepth 100000 in
set_option maxHeartbeats 4000000 in
theorem cc_ylay {d : Nat} {h : AbH} {K : Option AbV → AbH → Prop} {ay yi yf yl yy : Nat} {w : Nat → Int} {I F L Y : Nat → Int} (hw : wV w) (c : LY h ay yi yf yl yy I F L Y) (hd : yD yi yf yl yy) (hf : yFl w I F L) (hY : ∀ k, k < 12 → Y k = 0) (kk : ∀ h', Xt (Y4 yi yf yl yy) h h' → LO h' ay yi yf yl yy w → K none h') : Vm (d + 4) m_X2_layByFirstDate [vR (some ay)] h K := by
  obtain ⟨n1, n2⟩ := hw.now
  have hF : ∀ k, k < 12 → F k ≤ 99 := fun k hk => by
    by_cases q : k < no w
    · rw [((hf k hk).1 q).2.1]
      by_cases e : fsD w k = -1
      · omega
      · exact (fsD_lsD e).2.1
    · rw [(hf k hk).2 q]; decide
  have hF0 : ∀ k, k < 12 → F k = -1 ∨ 0 ≤ F k := fun k hk => by
    by_cases q : k < no w
    · rw [((hf k hk).1 q).2.1]
      by_cases e : fsD w k = -1
      · exact Or.inl e
      · exact Or.inr (fsD_lsD e).1
    · rw [(hf k hk).2 q]; decide
  have hl0 : ∀ k, k < 12 → F k = -1 → k < no w → lay w k = 0 := fun k hk e q => lay_0 (by rw [← ((hf k hk).1 q).2.1]; exact e)
  refine Vm.intro rfl (Nat.le_of_ble_eq_true rfl) (fun _ => B_X2_layByFirstDate_0 ?_)
  refine lp_up (P := fun D => ∀ h' (y : Nat → Nat) Y, Xt (Y4 yi yf yl yy) h h' → LY h' ay yi yf yl yy I F L Y → (∀ k, k < 12 → Y k = (y k : Int)) → (∀ k, k < 12 → y k = if k < no w ∧ F k < (D : Int) then lay w k else 0) → Vx (d + 4) m_X2_layByFirstDate 0 0 2 [some (vR (some ay)), some (vI (D : Int)), none] [] h' K) (n := 100) ?_ ?_ 0 (by omega) h (fun _ => 0) Y Xt.rf c (fun k hk => hY k hk) (fun k hk => ?_)
  · intro h' y Y' hX hL hy hk
    refine B_X2_layByFirstDate_2 ⟨fun _ => kk h' hX ⟨I, F, L, Y', hL, hf, fun k hk' => ?_⟩, fun z => absurd (by decide) z⟩
    rw [hy k hk', hk k hk']
    have := hF k hk'
    by_cases q : k < no w
    · rw [if_pos ⟨q, by omega⟩, if_pos q]
    · rw [if_neg (fun z => q z.1), if_neg q]
      rfl
  · intro D hD ihD h' y Y' hX hL hy hk
    refine B_X2_layByFirstDate_2 ⟨fun z => absurd z (by omega), fun _ => ?_⟩
    refine lp_up (P := fun i => ∀ h' (y : Nat → Nat) Y, Xt (Y4 yi yf yl yy) h h' → LY h' ay yi yf yl yy I F L Y → (∀ k, k < 12 → Y k = (y k : Int)) → (∀ k, k < 12 → y k = if k < no w ∧ (F k < (D : Int) ∨ (F k = (D : Int) ∧ k < i)) then lay w k else 0) → Vx (d + 4) m_X2_layByFirstDate 0 0 10 [some (vR (some ay)), some (vI (D : Int)), some (vI (i : Int))] [] h' K) (n := 12) ?_ ?_ 0 (by omega) h' y Y' hX hL hy (fun k hk' => ?_)
    · intro h' y Y' hX hL hy hk
      refine B_X2_layByFirstDate_10 ⟨fun _ => ⟨i3 (by omega) (by omega), ?_⟩, fun z => absurd (by decide) z⟩
      refine ihD h' y Y' hX hL hy (fun k hk' => ?_)
      rw [hk k hk']
      by_cases q : k < no w ∧ F k < ((D + 1 : Nat) : Int)
      · rw [if_pos q, if_pos ⟨q.1, by omega⟩]
      · rw [if_neg q, if_neg (fun z => q ⟨z.1, by omega⟩)]
    · intro i hi ih h' y Y' hX hL hy hk
      refine B_X2_layByFirstDate_10 ⟨fun z => absurd z (by omega), fun _ => ?_⟩
      obtain ⟨c1, c2, c3, c4, c5⟩ := id hL
      refine gR_i c1 rfl (lI_i c3 (by omega) (by omega) ?_)
      rw [Int.toNat_natCast]
      refine ⟨fun q => ⟨i3 (by omega) (by omega), ih h' y Y' hX hL hy (fun k hk' => ?_)⟩, fun q => ?_⟩
      · rw [hk k hk']
        by_cases e : k = i
        · rw [e]
          by_cases z : i < no w ∧ F i < (D : Int)
          · rw [if_pos ⟨z.1, Or.inl z.2⟩, if_pos ⟨z.1, Or.inl z.2⟩]
          · rw [if_neg (by omega), if_neg (by omega)]
        · by_cases z : k < no w ∧ (F k < (D : Int) ∨ (F k = (D : Int) ∧ k < i))
          · rw [if_pos z, if_pos (by omega)]
          · rw [if_neg z, if_neg (by omega)]
      · have q := Classical.byContradiction q
        have hin : i < no w := by
          apply Classical.byContradiction
          intro z
          have := (hf i hi).2 z
          omega
        refine gR_i c1 rfl ?_
        refine cv_i c1 (cc_ybefore hL hy hi ?_)
        simp only [kI_some, kL_some, kR_some, kV_none, ne_eq, not_true_eq_false, not_false_eq_true, true_implies, false_implies, implies_true, true_and, and_true, ab_z01, or_true, true_or, reduceCtorEq, Option.some.injEq, Int.reduceEq, Int.reduceNe, Int.reduceLT, Int.reduceLE, Int.reduceNeg, Int.reduceAdd, Int.reduceSub, Int.reduceMul, Nat.reduceEqDiff, Nat.reduceAdd, Nat.reduceMul, Int.reduceToNat, ↓reduceIte]
        have fe := ((hf i hi).1 hin).2.1
        have hval : 1 + mxN (fun j => if oB I F L j i = true then y j else 0) 12 = lay w i := by
          rw [lay_eq, if_neg (by omega)]
          congr 1
          rw [mxN_cut (n := no w) 12 n2 (fun j h1 h2 => ?_)]
          · refine mxN_congr _ (fun j hj => ?_)
            have hj12 : j < 12 := by omega
            by_cases z : oldB w j i = true
            · rw [if_pos z, if_pos ((oB_old hf hj12 hin hi).mpr ⟨hj, z⟩), hk j hj12]
              have := oldB_lt z
              rw [if_pos ⟨hj, Or.inl (by rw [((hf j hj12).1 hj).2.1]; omega)⟩]
            · rw [if_neg z, if_neg (fun z2 => z ((oB_old hf hj12 hin hi).mp z2).2)]
          · exact if_neg (fun z2 => by have := ((oB_old hf h2 hin hi).mp z2).1; omega)
        have hle := lay_le hin
        refine ⟨i3 (by omega) (by omega), ?_⟩
        refine sI_i c5 (by omega) (by omega) ?_
        rw [Int.toNat_natCast]
        refine ⟨i3 (by omega) (by omega), ?_⟩
        refine ih _ (fun k => if k = i then lay w i else y k) _ (hX.tr (xt_Y (Or.inr (Or.inr (Or.inr rfl))))) (hL.sY hd _) (fun k hk' => ?_) (fun k hk' => ?_)
        · by_cases e : k = i
          · rw [e, vu_same, if_pos rfl]; omega
          · rw [vu_ne e, if_neg e]; exact hy k hk'
        · by_cases e : k = i
          · rw [e, if_pos rfl, if_pos ⟨hin, Or.inr ⟨q, by omega⟩⟩]
          · rw [if_neg e, hk k hk']
            by_cases z : k < no w ∧ (F k < (D : Int) ∨ (F k = (D : Int) ∧ k < i))
            · rw [if_pos z, if_pos (by omega)]
            · rw [if_neg z, if_neg (by omega)]
    · rw [hk k hk']
      by_cases z : k < no w ∧ F k < (D : Int)
      · rw [if_pos z, if_pos ⟨z.1, Or.inl z.2⟩]
      · rw [if_neg z, if_neg (by omega)]
  · by_cases z : k < no w ∧ F k < ((0 : Nat) : Int)
    · rw [if_pos z, hl0 k hk (by have := hF0 k hk; omega) z.1]
    · rw [if_neg z]
def Y7 (aw wf wl yi yf yl yy : Nat) (q : Nat) : Prop := W3 aw wf wl q ∨ Y4 yi yf yl yy q
set_option maxRecDepth 100000 in
set_option maxHeartbeats 4000000 in
theorem cc_yof {d : Nat} {h : AbH} {K : Option AbV → AbH → Prop} {P : Nat → Prop} {a aw wf wl ay yi yf yl yy : Nat} {w : Nat → Int} {I F L Y : Nat → Int} (cw : CW P h a w) (c : LY h ay yi yf yl yy I F L Y) (hd : yD yi yf yl yy) (wn : ∃ n F G, WN h aw wf wl n F G) (hP : ∀ q, Y7 aw wf wl yi yf yl yy q → P q) (hay : ¬ W3 aw wf wl ay) (hq : ∀ q, Y4 yi yf yl yy q → ¬ W3 aw wf wl q) (kk : ∀ h', Xt (Y7 aw wf wl yi yf yl yy) h h' → LO h' ay yi yf yl yy w → (∃ n F G, WN h' aw wf wl n F G) → K (some (vR (some ay))) h') : Vm (d + 6) m_X2_of [vR (some ay), vR (some a), vR (some aw)] h K := by
  have hw := cw.1
  obtain ⟨n1, n2⟩ := hw.now
  have hWY : ∀ q, W3 aw wf wl q → ¬ Y4 yi yf yl yy q := fun q z1 z2 => hq q z2 z1
  have xY : ∀ {h1 : AbH} {q : Nat} {c : Nat × (Nat → Int)}, Y4 yi yf yl yy q → Xt (Y7 aw wf wl yi yf yl yy) h1 (hsI h1 q c) := fun z => xt_I (Or.inl (Or.inr z))
  have y1 : Y4 yi yf yl yy yi := Or.inl rfl
  have y2 : Y4 yi yf yl yy yf := Or.inr (Or.inl rfl)
  have y3 : Y4 yi yf yl yy yl := Or.inr (Or.inr (Or.inl rfl))
  have y4 : Y4 yi yf yl yy yy := Or.inr (Or.inr (Or.inr rfl))
  have mW : ∀ {h1 : AbH} {q : Nat} {c : Nat × (Nat → Int)}, Y4 yi yf yl yy q → (∃ n F G, WN h1 aw wf wl n F G) → ∃ n F G, WN (hsI h1 q c) aw wf wl n F G := fun z ⟨n, F, G, e⟩ => ⟨n, F, G, e.mv (xt_I (P := Y4 yi yf yl yy) (Or.inl z)) (hWY _ (Or.inl rfl)) (hWY _ (Or.inr (Or.inl rfl))) (hWY _ (Or.inr (Or.inr rfl)))⟩
  have mO : ∀ {h1 : AbH} {q k : Nat} {c : Nat × (Nat → Int)}, Y4 yi yf yl yy q → WO h1 aw wf wl w k → WO (hsI h1 q c) aw wf wl w k := fun z e => e.mv (xt_I (P := Y4 yi yf yl yy) (Or.inl z)) (hWY _ (Or.inl rfl)) (hWY _ (Or.inr (Or.inl rfl))) (hWY _ (Or.inr (Or.inr rfl)))
  refine Vm.intro rfl (Nat.le_of_ble_eq_true rfl) (fun _ => B_X2_of_0 ?_)
  refine lp_up (P := fun i => ∀ h' I F L Y, Xt (Y7 aw wf wl yi yf yl yy) h h' → LY h' ay yi yf yl yy I F L Y → (∃ n F G, WN h' aw wf wl n F G) → (∀ k, k < 12 → k < i → (k < no w → I k = lo w k 1 ∧ F k = fsD w k ∧ L k = lsD w k) ∧ (¬ k < no w → F k = -1) ∧ Y k = 0) → Vx (d + 6) m_X2_of 0 0 2 [some (vR (some ay)), some (vR (some a)), some (vR (some aw)), some (vI (i : Int)), none] [] h' K) (n := 12) ?_ ?_ 0 (by omega) h I F L Y Xt.rf c wn (fun k _ hk => absurd hk (by omega))
  · intro h' I F L Y hX hL hW hs
    refine B_X2_of_2 ⟨fun _ => ?_, fun z => absurd (by decide) z⟩
    refine cv_i hL.1 ?_
    refine cc_ylay hw hL hd (fun k hk => ⟨(hs k hk hk).1, (hs k hk hk).2.1⟩) (fun k hk => (hs k hk hk).2.2) (fun h2 hX2 hO => ?_)
    simp only [kI_some, kL_some, kR_some, kV_none, ne_eq, not_true_eq_false, not_false_eq_true, true_implies, false_implies, implies_true, true_and, and_true, ab_z01, or_true, true_or, reduceCtorEq, Option.some.injEq, Int.reduceEq, Int.reduceNe, Int.reduceLT, Int.reduceLE, Int.reduceNeg, Int.reduceAdd, Int.reduceSub, Int.reduceMul, Nat.reduceEqDiff, Nat.reduceAdd, Nat.reduceMul, Int.reduceToNat, ↓reduceIte]
    refine kk h2 (hX.tr (hX2.mono (fun q z => Or.inr z))) hO ?_
    obtain ⟨n, F, G, e⟩ := hW
    exact ⟨n, F, G, e.mv hX2 (hWY _ (Or.inl rfl)) (hWY _ (Or.inr (Or.inl rfl))) (hWY _ (Or.inr (Or.inr rfl)))⟩
  · intro i hi ih h' I F L Y hX hL hW hs
    refine B_X2_of_2 ⟨fun z => absurd z (by omega), fun _ => ?_⟩
    obtain ⟨-, al, ao, af, ae, g1, g2, ff, fl, cx, -⟩ := cw.mv (hX.mono hP)
    refine cv_i cx.1 ?_
    -- the three cells that are cleared
    obtain ⟨h3, hh3⟩ : ∃ h3, h3 = hsI (hsI (hsI h' yy (12, va_up Y i 0)) yf (12, va_up F i (-1))) yl (12, va_up L i (-1)) := ⟨_, rfl⟩
    have L3 : LY h3 ay yi yf yl yy I (va_up F i (-1)) (va_up L i (-1)) (va_up Y i 0) := by
      rw [hh3]
      exact ((hL.sY hd _).sF hd _).sL hd _
    have X3 : Xt (Y7 aw wf wl yi yf yl yy) h h3 := by
      rw [hh3]
      exact hX.tr ((xY y4).tr ((xY y2).tr (xY y3)))
    have W3' : ∃ n F G, WN h3 aw wf wl n F G := by
      rw [hh3]
      exact mW y3 (mW y2 (mW y4 hW))
    have step : ∀ (r : Option Nat) (Q : AbH → Prop), Q h3 → wpGR h' (some ay) 1 3 (fun r5 => wpSI h' r5 (i : Int) 0 (fun h6 => wpGR h6 (some ay) 1 1 (fun r7 => wpSI h6 r7 (i : Int) (-1) (fun h8 => wpGR h8 (some ay) 1 2 (fun r9 => wpSI h8 r9 (i : Int) (-1) Q))))) := by
      intro r Q hQ
      have a1 := hL.sY hd (va_up Y i 0)
      have a2 := a1.sF hd (va_up F i (-1))
      refine gR_i hL.1 rfl (sI_i hL.2.2.2.2 (by omega) (by omega) ?_)
      rw [Int.toNat_natCast]
      refine gR_i a1.1 rfl (sI_i a1.2.2.1 (by omega) (by omega) ?_)
      rw [Int.toNat_natCast]
      refine gR_i a2.1 rfl (sI_i a2.2.2.2.1 (by omega) (by omega) ?_)
      rw [Int.toNat_natCast, ← hh3]
      exact hQ
    refine cc_loanAt hw cx (fun k hk hkn b hb1 hb2 hb3 => ?_) (fun z => ?_) <;> simp only [kI_some, kL_some, kR_some, kV_none, ne_eq, not_true_eq_false, not_false_eq_true, true_implies, false_implies, implies_true, true_and, and_true, ab_z01, or_true, true_or, reduceCtorEq, Option.some.injEq, Int.reduceEq, Int.reduceNe, Int.reduceLT, Int.reduceLE, Int.reduceNeg, Int.reduceAdd, Int.reduceSub, Int.reduceMul, Nat.reduceEqDiff, Nat.reduceAdd, Nat.reduceMul, Int.reduceToNat, ↓reduceIte]
    · have hk : k = i := by omega
      rw [hk] at hkn hb2
      refine step none _ ?_
      obtain ⟨n, F0, G0, e⟩ := id W3'
      refine cv_i e.1 ?_
      have hbY : ¬ Y7 aw wf wl yi yf yl yy b := fun z => hb3 (hP b z)
      have b3 : hpO h3 b = some (2, loF w i) := by rw [hh3]; exact hb2
      refine cc_wof2 (cw.mv (X3.mono hP)) hkn b3 hb3 W3' (fun q z => hP q (Or.inl z)) (fun h4 hO hX4 => ?_)
      simp only [kI_some, kL_some, kR_some, kV_none, ne_eq, not_true_eq_false, not_false_eq_true, true_implies, false_implies, implies_true, true_and, and_true, ab_z01, or_true, true_or, reduceCtorEq, Option.some.injEq, Int.reduceEq, Int.reduceNe, Int.reduceLT, Int.reduceLE, Int.reduceNeg, Int.reduceAdd, Int.reduceSub, Int.reduceMul, Nat.reduceEqDiff, Nat.reduceAdd, Nat.reduceMul, Int.reduceToNat, ↓reduceIte]
      have L4 := L3.mv hX4 hay hq
      have b4 : hpO h4 b = some (2, loF w i) := hX4.O (fun z => hbY (Or.inl z)) b3
      refine gR_i L4.1 rfl (gI_i b4 rfl (sI_i L4.2.1 (by omega) (by omega) ?_))
      rw [Int.toNat_natCast]
      have L5 := L4.sI hd (va_up I i (lo w i 1))
      have O5 := mO (c := (12, va_up I i (lo w i 1))) y1 hO
      refine gR_i L5.1 rfl ?_
      obtain ⟨_, _, _, O5w⟩ := O5.WN
      refine cv_i O5w.1 (cc_wearliest O5 ?_)
      simp only [kI_some, kL_some, kR_some, kV_none, ne_eq, not_true_eq_false, not_false_eq_true, true_implies, false_implies, implies_true, true_and, and_true, ab_z01, or_true, true_or, reduceCtorEq, Option.some.injEq, Int.reduceEq, Int.reduceNe, Int.reduceLT, Int.reduceLE, Int.reduceNeg, Int.reduceAdd, Int.reduceSub, Int.reduceMul, Nat.reduceEqDiff, Nat.reduceAdd, Nat.reduceMul, Int.reduceToNat, ↓reduceIte]
      refine sI_i L5.2.2.1 (by omega) (by omega) ?_
      rw [Int.toNat_natCast]
      have L6 := L5.sF hd (va_up (va_up F i (-1)) i (fsD w i))
      have O6 := mO (c := (12, va_up (va_up F i (-1)) i (fsD w i))) y2 O5
      refine gR_i L6.1 rfl ?_
      obtain ⟨_, _, _, O6w⟩ := O6.WN
      refine cv_i O6w.1 (cc_wlatest O6 ?_)
      simp only [kI_some, kL_some, kR_some, kV_none, ne_eq, not_true_eq_false, not_false_eq_true, true_implies, false_implies, implies_true, true_and, and_true, ab_z01, or_true, true_or, reduceCtorEq, Option.some.injEq, Int.reduceEq, Int.reduceNe, Int.reduceLT, Int.reduceLE, Int.reduceNeg, Int.reduceAdd, Int.reduceSub, Int.reduceMul, Nat.reduceEqDiff, Nat.reduceAdd, Nat.reduceMul, Int.reduceToNat, ↓reduceIte]
      refine sI_i L6.2.2.2.1 (by omega) (by omega) ?_
      rw [Int.toNat_natCast]
      have L7 := L6.sL hd (va_up (va_up L i (-1)) i (lsD w i))
      have O7 := mO (c := (12, va_up (va_up L i (-1)) i (lsD w i))) y3 O6
      refine ⟨i3 (by omega) (by omega), ih _ _ _ _ _ (X3.tr ((hX4.mono (fun q z => Or.inl z)).tr ((xY y1).tr ((xY y2).tr (xY y3))))) L7 O7.WN (fun k hk12 hki => ?_)⟩
      by_cases e : k = i
      · rw [e, vu_same, vu_same, vu_same, vu_same]
        exact ⟨fun _ => ⟨rfl, rfl, rfl⟩, fun z => absurd hkn z, rfl⟩
      · rw [vu_ne e, vu_ne e, vu_ne e, vu_ne e, vu_ne e, vu_ne e]
        exact hs k hk12 (by omega)
    · refine step none _ ⟨i3 (by omega) (by omega), ih _ _ _ _ _ X3 L3 W3' (fun k hk12 hki => ?_)⟩
      by_cases e : k = i
      · rw [e, vu_same, vu_same, vu_same]
        exact ⟨fun q => absurd q (by omega), fun _ => rfl, rfl⟩
      · rw [vu_ne e, vu_ne e, vu_ne e]
        exact hs k hk12 (by omega)
set_option maxRecDepth 100000 in
set_option maxHeartbeats 4000000 in
theorem cc_ylayerOf {d : Nat} {h : AbH} {K : Option AbV → AbH → Prop} {ay yi yf yl yy k : Nat} {w : Nat → Int} (hw : wV w) (c : LO h ay yi yf yl yy w) (hk : k < no w) (kk : K (some (vI (lay w k : Int))) h) : Vm (d + 2) m_X2_layerOf [vR (some ay), vI (k : Int)] h K := by
  obtain ⟨n1, n2⟩ := hw.now
  obtain ⟨I, F, L, Y, ⟨c1, c2, c3, c4, c5⟩, hf, hY⟩ := c
  refine Vm.intro rfl (Nat.le_of_ble_eq_true rfl) (fun _ => B_X2_layerOf_0 ?_)
  refine cc_within (fun _ => ?_) (fun q => absurd (by omega) q)
  simp only [kI_some, kL_some, kR_some, kV_none, ne_eq, not_true_eq_false, not_false_eq_true, true_implies, false_implies, implies_true, true_and, and_true, ab_z01, or_true, true_or, reduceCtorEq, Option.some.injEq, Int.reduceEq, Int.reduceNe, Int.reduceLT, Int.reduceLE, Int.reduceNeg, Int.reduceAdd, Int.reduceSub, Int.reduceMul, Nat.reduceEqDiff, Nat.reduceAdd, Nat.reduceMul, Int.reduceToNat, ↓reduceIte]
  refine gR_i c1 rfl (lI_i c5 (by omega) (by omega) ?_)
  rw [Int.toNat_natCast, hY k (by omega), if_pos hk]
  exact kk
set_option maxRecDepth 100000 in
set_option maxHeartbeats 4000000 in
theorem cc_yisOlder {d : Nat} {h : AbH} {K : Option AbV → AbH → Prop} {ay yi yf yl yy i j : Nat} {w : Nat → Int} (hw : wV w) (c : LO h ay yi yf yl yy w) (hi : i < no w) (hj : j < no w) (kk : K (some (vI (b2i (oldB w i j)))) h) : Vm (d + 2) m_X2_isOlder [vR (some ay), vI (i : Int), vI (j : Int)] h K := by
  obtain ⟨n1, n2⟩ := hw.now
  obtain ⟨I, F, L, Y, c, hf, hY⟩ := c
  refine cc_yolder c (by omega) (by omega) ?_
  have e : oB I F L i j = oldB w i j := by
    have := oB_old hf (show i < 12 by omega) hj (by omega)
    cases h1 : oB I F L i j with
    | false =>
      cases h2 : oldB w i j with
      | false => rfl
      | true => exact absurd (this.mpr ⟨hi, h2⟩) (by rw [h1]; decide)
    | true => rw [(this.mp h1).2]
  rw [e]
  exact kk
set_option maxRecDepth 100000 in
set_option maxHeartbeats 4000000 in
theorem cc_yolderThan {d : Nat} {h : AbH} {K : Option AbV → AbH → Prop} {ay yi yf yl yy k : Nat} {w : Nat → Int} (hw : wV w) (c : LO h ay yi yf yl yy w) (hk : k < no w) (kk : K (some (vI (cntN (fun i => oldB w i k) (no w) : Int))) h) : Vm (d + 3) m_X2_olderThan [vR (some ay), vI (k : Int)] h K := by
  obtain ⟨n1, n2⟩ := hw.now
  obtain ⟨I, F, L, Y, c, hf, hY⟩ := c
  have hcut := cntN_cut (p := fun i => oB I F L i k) (n := no w) 12 n2 (fun i h1 h2 z => by
    have := ((oB_old hf h2 hk (by omega)).mp z).1
    omega)
  have hlow : ∀ n, n ≤ no w → cntN (fun i => oB I F L i k) n = cntN (fun i => oldB w i k) n := by
    intro n
    induction n with
    | zero => intro _; rfl
    | succ n ih =>
      intro hn
      have := ih (by omega)
      have q := oB_old hf (show n < 12 by omega) hk (by omega)
      unfold cntN
      rw [this]
      by_cases z : oldB w n k = true
      · rw [if_pos z, if_pos (q.mpr ⟨by omega, z⟩)]
      · rw [if_neg z, if_neg (fun y => z (q.mp y).2)]
  rw [← hlow _ (Nat.le_refl _), ← hcut] at kk
  refine Vm.intro rfl (Nat.le_of_ble_eq_true rfl) (fun _ => B_X2_olderThan_0 ?_)
  refine lp_up (P := fun i => Vx (d + 3) m_X2_olderThan 0 0 4 [some (vR (some ay)), some (vI (k : Int)), some (vI (cntN (fun i => oB I F L i k) i : Int)), some (vI (i : Int))] [] h K) (n := 12) ?_ ?_ 0 (by omega)
  · exact B_X2_olderThan_4 ⟨fun _ => kk, fun z => absurd (by decide) z⟩
  · intro i hi ih
    have hle := cntN_le (fun i => oB I F L i k) i
    have hs : cntN (fun i => oB I F L i k) (i + 1) = cntN (fun i => oB I F L i k) i + (if oB I F L i k = true then 1 else 0) := rfl
    rw [hs] at ih
    refine B_X2_olderThan_4 ⟨fun z => absurd z (by omega), fun _ => ?_⟩
    refine cv_i c.1 (cc_yolder c hi (by omega) ?_)
    simp only [kI_some, kL_some, kR_some, kV_none, ne_eq, not_true_eq_false, not_false_eq_true, true_implies, false_implies, implies_true, true_and, and_true, ab_z01, or_true, true_or, reduceCtorEq, Option.some.injEq, Int.reduceEq, Int.reduceNe, Int.reduceLT, Int.reduceLE, Int.reduceNeg, Int.reduceAdd, Int.reduceSub, Int.reduceMul, Nat.reduceEqDiff, Nat.reduceAdd, Nat.reduceMul, Int.reduceToNat, ↓reduceIte]
    cases hb : oB I F L i k with
    | false =>
      rw [hb, if_neg (by decide), Nat.add_zero] at ih
      exact ⟨fun _ => ⟨i3 (by omega) (by omega), ih⟩, fun z => absurd rfl z⟩
    | true =>
      rw [hb, if_pos rfl] at ih
      exact ⟨fun z => absurd z (by decide), fun _ => ⟨i3 (by omega) (by omega), i3 (by omega) (by omega), ih⟩⟩
set_option maxRecDepth 100000 in
set_option maxHeartbeats 4000000 in
theorem cc_ygreatest {d : Nat} {h : AbH} {K : Option AbV → AbH → Prop} {ay yi yf yl yy : Nat} {w : Nat → Int} (hw : wV w) (c : LO h ay yi yf yl yy w) (kk : K (some (vI (mxN (lay w) (no w) : Int))) h) : Vm (d + 1) m_X2_greatest [vR (some ay)] h K := by
  obtain ⟨n1, n2⟩ := hw.now
  obtain ⟨I, F, L, Y, ⟨c1, c2, c3, c4, c5⟩, hf, hY⟩ := c
  obtain ⟨y, hy⟩ : ∃ y : Nat → Nat, y = fun k => if k < no w then lay w k else 0 := ⟨_, rfl⟩
  have hYy : ∀ k, k < 12 → Y k = (y k : Int) := fun k hk => by
    rw [hY k hk, hy]
    by_cases z : k < no w
    · rw [if_pos z]
      simp only [if_pos z]
    · rw [if_neg z]
      simp only [if_neg z]
      rfl
  have hcut := mxN_cut (g := y) (n := no w) 12 n2 (fun i h1 h2 => by rw [hy]; exact if_neg (by omega))
  have e : mxN y (no w) = mxN (lay w) (no w) := mxN_congr _ (fun i hi => by rw [hy]; exact if_pos hi)
  rw [← e, ← hcut] at kk
  refine Vm.intro rfl (Nat.le_of_ble_eq_true rfl) (fun _ => B_X2_greatest_0 ?_)
  refine gR_i c1 rfl (nI_i c5 ?_)
  refine lp_up (P := fun i => Vx (d + 1) m_X2_greatest 0 0 13 [some (vR (some ay)), some (vI (mxN y i : Int)), some (vR (some yy)), some (vI 12), some (vI (i : Int)), none] [] h K) (n := 12) ?_ ?_ 0 (by omega)
  · exact B_X2_greatest_13 ⟨fun _ => kk, fun z => absurd (by decide) z⟩
  · intro i hi ih
    refine B_X2_greatest_13 ⟨fun z => absurd z (by omega), fun _ => ?_⟩
    refine lI_i c5 (by omega) (by omega) ?_
    rw [Int.toNat_natCast, hYy i hi]
    refine ⟨i3 (by omega) (by omega), ?_⟩
    have hs : mxN y (i + 1) = if mxN y i < y i then y i else mxN y i := rfl
    rw [hs] at ih
    by_cases q : mxN y i < y i
    · rw [if_pos q] at ih
      rw [if_pos (by omega)]
      exact ih
    · rw [if_neg q] at ih
      rw [if_neg (by omega)]
      exact ih
