/-! the text, in the class: tokens -/
def xF (ab L c s e k : Nat) : List AbV := [vR (some ab), vI (L : Int), vI (c : Int), vI (s : Int), vI (e : Int), vI (k : Int)]
def TX (h : AbH) (ax ab : Nat) (T : Nat → Int) (L c s e k : Nat) : Prop := hpO h ax = some (4, xF ab L c s e k) ∧ hpI h ab = some (200, T)
def tkK (T : Nat → Int) (L s : Nat) : Nat := if s < L then kd T s else 0
/-- the token at s is at hand -/
def TK (h : AbH) (ax ab : Nat) (T : Nat → Int) (L c s : Nat) : Prop := TX h ax ab T L c s (tkE T L s) (tkK T L s) ∧ s ≤ L
def A1 (a : Nat) (q : Nat) : Prop := q = a
theorem TX.mv {P : Nat → Prop} {h h' : AbH} {ax ab : Nat} {T : Nat → Int} {L c s e k : Nat} (t : TX h ax ab T L c s e k) (x : Xt P h h') (h1 : ¬ P ax) (h2 : ¬ P ab) : TX h' ax ab T L c s e k := ⟨x.O h1 t.1, x.I h2 t.2⟩
theorem TK.mv {P : Nat → Prop} {h h' : AbH} {ax ab : Nat} {T : Nat → Int} {L c s : Nat} (t : TK h ax ab T L c s) (x : Xt P h h') (h1 : ¬ P ax) (h2 : ¬ P ab) : TK h' ax ab T L c s := ⟨t.1.mv x h1 h2, t.2⟩
def bA (T : Nat → Int) (L : Nat) (i : Int) : Int := if 0 ≤ i ∧ i < (L : Int) then T i.toNat else -1
theorem bA_nat {T : Nat → Int} {L i : Nat} : bA T L (i : Int) = if i < L then T i else -1 := by
  unfold bA
  by_cases c : i < L
  · rw [if_pos (by omega), if_pos c, Int.toNat_natCast]
  · rw [if_neg (by omega), if_neg c]
def kdI (x : Int) : Nat := if 97 ≤ x ∧ x ≤ 122 then 1 else if 48 ≤ x ∧ x ≤ 57 then 2 else 0
set_option maxRecDepth 100000 in
set_option maxHeartbeats 4000000 in
theorem cc_byteAt {d : Nat} {h : AbH} {K : Option AbV → AbH → Prop} {ax ab : Nat} {T : Nat → Int} {L c s e k : Nat} {i : Int} (t : TX h ax ab T L c s e k) (hT : txV T L) (kk : K (some (vI (bA T L i))) h) : Vm (d + 1) m_X5_byteAt [vR (some ax), vI i] h K := by
  have hL := hT.1
  unfold bA at kk
  refine Vm.intro rfl (Nat.le_of_ble_eq_true rfl) (fun _ => B_X5_byteAt_0 ?_)
  refine ⟨fun q => ?_, fun q => ?_⟩
  · rw [if_neg (by omega)] at kk
    exact kk
  refine gI_i t.1 rfl ⟨fun q2 => ?_, fun q2 => ?_⟩
  · rw [if_neg (by omega)] at kk
    exact kk
  refine gR_i t.1 rfl (nI_i t.2 ⟨fun q3 => absurd q3 (by omega), fun _ => ?_⟩)
  rw [if_pos (by omega)] at kk
  exact gR_i t.1 rfl (lI_i t.2 (by omega) (by omega) kk)
set_option maxRecDepth 100000 in
set_option maxHeartbeats 4000000 in
theorem cc_kindOf {d : Nat} {h : AbH} {K : Option AbV → AbH → Prop} {x : Int} (kk : K (some (vI (kdI x : Int))) h) : Vm (d + 1) m_X5_kindOf [vI x] h K := by
  unfold kdI at kk
  have k0 : ¬ (97 ≤ x ∧ x ≤ 122) → ¬ (48 ≤ x ∧ x ≤ 57) → K (some (vI 0)) h := fun c1 c2 => by
    rw [if_neg c1, if_neg c2] at kk
    exact kk
  have k2 : ¬ (97 ≤ x ∧ x ≤ 122) → 48 ≤ x ∧ x ≤ 57 → K (some (vI 2)) h := fun c1 c2 => by
    rw [if_neg c1, if_pos c2] at kk
    exact kk
  refine Vm.intro rfl (Nat.le_of_ble_eq_true rfl) (fun _ => B_X5_kindOf_0 ?_)
  refine ⟨fun q => ⟨fun q2 => k0 (by omega) (by omega), fun q2 => ⟨fun q3 => k0 (by omega) (by omega), fun q3 => k2 (by omega) (by omega)⟩⟩, fun q => ⟨fun q1 => ⟨fun q2 => k0 (by omega) (by omega), fun q2 => ⟨fun q3 => k0 (by omega) (by omega), fun q3 => k2 (by omega) (by omega)⟩⟩, fun q1 => ?_⟩⟩
  rw [if_pos (by omega)] at kk
  exact kk
theorem tx_set {h : AbH} {ax ab : Nat} {T : Nat → Int} {L c s e k : Nat} (hb : hpI h ab = some (200, T)) : TX (hsO h ax (4, xF ab L c s e k)) ax ab T L c s e k := ⟨by rw [hO_O, if_pos rfl], hb⟩
theorem kd_kdI {T : Nat → Int} {i : Nat} : kd T i = kdI (T i) := rfl
set_option maxRecDepth 100000 in
set_option maxHeartbeats 4000000 in
theorem cc_advance {d : Nat} {h : AbH} {K : Option AbV → AbH → Prop} {ax ab : Nat} {T : Nat → Int} {L c s0 e k : Nat} (t : TX h ax ab T L c s0 e k) (hT : txV T L) (he : e ≤ L) (kk : ∀ h', TK h' ax ab T L c (skp T L e) → Xt (A1 ax) h h' → K none h') : Vm (d + 2) m_X5_advance [vR (some ax)] h K := by
  have hL := hT.1
  have xs : ∀ {h1 : AbH} {c : Nat × List AbV}, Xt (A1 ax) h1 (hsO h1 ax c) := xt_O (Or.inl rfl)
  obtain ⟨s, hs⟩ : ∃ s, s = skp T L e := ⟨_, rfl⟩
  obtain ⟨hs1, hs2⟩ : e ≤ s ∧ s ≤ L := by rw [hs]; exact skp_le he
  rw [← hs] at kk
  -- the end of the token
  have F77 : ∀ h1 (i : Nat), TX h1 ax ab T L c s i (tkK T L s) → Xt (A1 ax) h h1 → s ≤ i → i ≤ L → (tkK T L s ≠ 0 → ext T L (tkK T L s) i = tkE T L s) → (tkK T L s = 0 → i = tkE T L s) → Vx (d + 2) m_X5_advance 0 0 77 [some (vR (some ax))] [] h1 K := by
    intro h1 i t1 X1 hsi hiL e1 e2
    refine lp_up (P := fun i => ∀ h1, TX h1 ax ab T L c s i (tkK T L s) → Xt (A1 ax) h h1 → s ≤ i → (tkK T L s ≠ 0 → ext T L (tkK T L s) i = tkE T L s) → (tkK T L s = 0 → i = tkE T L s) → Vx (d + 2) m_X5_advance 0 0 77 [some (vR (some ax))] [] h1 K) (n := L) ?_ ?_ i hiL h1 t1 X1 hsi e1 e2
    · intro h1 t1 X1 hsi e1 e2
      have fin : L = tkE T L s := by
        by_cases q : tkK T L s = 0
        · exact e2 q
        · rw [← e1 q, ext_step, if_neg (fun z => absurd z.1 (Nat.lt_irrefl L))]
      refine B_X5_advance_77 (gI_i t1.1 rfl ⟨fun q => ?_, fun q => gI_i t1.1 rfl (gI_i t1.1 rfl ⟨fun _ => ?_, fun z => absurd (Int.le_refl _) z⟩)⟩)
      · exact kk h1 ⟨by rw [← fin]; exact t1, hs2⟩ X1
      · exact kk h1 ⟨by rw [← fin]; exact t1, hs2⟩ X1
    · intro i hi ih h1 t1 X1 hsi e1 e2
      refine B_X5_advance_77 (gI_i t1.1 rfl ⟨fun q => ?_, fun q => gI_i t1.1 rfl (gI_i t1.1 rfl ⟨fun z => absurd z (by omega), fun _ => ?_⟩)⟩)
      · have fin := e2 (by omega)
        exact kk h1 ⟨by rw [← fin]; exact t1, hs2⟩ X1
      · refine gI_i t1.1 rfl (cv_i t1.1 (cc_byteAt t1 hT ?_))
        simp only [kI_some, kL_some, kR_some, kV_none, ne_eq, not_true_eq_false, not_false_eq_true, true_implies, false_implies, implies_true, true_and, and_true, ab_z01, or_true, true_or, reduceCtorEq, Option.some.injEq, Int.reduceEq, Int.reduceNe, Int.reduceLT, Int.reduceLE, Int.reduceNeg, Int.reduceAdd, Int.reduceSub, Int.reduceMul, Nat.reduceEqDiff, Nat.reduceAdd, Nat.reduceMul, Int.reduceToNat, ↓reduceIte]
        refine cc_kindOf ?_
        simp only [kI_some, kL_some, kR_some, kV_none, ne_eq, not_true_eq_false, not_false_eq_true, true_implies, false_implies, implies_true, true_and, and_true, ab_z01, or_true, true_or, reduceCtorEq, Option.some.injEq, Int.reduceEq, Int.reduceNe, Int.reduceLT, Int.reduceLE, Int.reduceNeg, Int.reduceAdd, Int.reduceSub, Int.reduceMul, Nat.reduceEqDiff, Nat.reduceAdd, Nat.reduceMul, Int.reduceToNat, ↓reduceIte]
        rw [bA_nat, if_pos hi]
        have e1' := e1 (by omega)
        rw [ext_step] at e1'
        refine gI_i t1.1 rfl ⟨fun z => ?_, fun z => ?_⟩
        · rw [if_neg (fun y => z (by rw [← y.2]; rfl))] at e1'
          exact kk h1 ⟨by rw [← e1']; exact t1, hs2⟩ X1
        · have z' : kd T i = tkK T L s := by have := Classical.byContradiction z; rw [kd_kdI]; omega
          rw [if_pos ⟨hi, z'⟩] at e1'
          refine gI_i t1.1 rfl ⟨i3 (by omega) (by omega), p_i t1.1 (by show 4 < 6; decide) ?_⟩
          exact ih _ (tx_set t1.2) (X1.tr xs) (by omega) (fun _ => e1') (fun y => absurd y (by omega))
  have F45 : ∀ h1 e k, TX h1 ax ab T L c s e k → Xt (A1 ax) h h1 → Vx (d + 2) m_X5_advance 0 0 45 [some (vR (some ax))] [] h1 K := by
    intro h1 e k t1 X1
    refine B_X5_advance_45 (gI_i t1.1 rfl ⟨i3 (by omega) (by omega), gI_i t1.1 rfl (p_i t1.1 (by show 4 < 6; decide) ?_)⟩)
    have em : (if (L : Int) < (s : Int) + 1 then (L : Int) else (s : Int) + 1) = ((if s < L then s + 1 else L : Nat) : Int) := by
      by_cases q : s < L
      · rw [if_neg (by omega), if_pos q]; rfl
      · rw [if_pos (by omega), if_neg q]
    rw [em]
    have t2 : TX (hsO h1 ax (4, xF ab L c s (if s < L then s + 1 else L) k)) ax ab T L c s (if s < L then s + 1 else L) k := tx_set t1.2
    refine gI_i t2.1 rfl (cv_i t2.1 (cc_byteAt t2 hT ?_))
    simp only [kI_some, kL_some, kR_some, kV_none, ne_eq, not_true_eq_false, not_false_eq_true, true_implies, false_implies, implies_true, true_and, and_true, ab_z01, or_true, true_or, reduceCtorEq, Option.some.injEq, Int.reduceEq, Int.reduceNe, Int.reduceLT, Int.reduceLE, Int.reduceNeg, Int.reduceAdd, Int.reduceSub, Int.reduceMul, Nat.reduceEqDiff, Nat.reduceAdd, Nat.reduceMul, Int.reduceToNat, ↓reduceIte]
    refine cc_kindOf ?_
    simp only [kI_some, kL_some, kR_some, kV_none, ne_eq, not_true_eq_false, not_false_eq_true, true_implies, false_implies, implies_true, true_and, and_true, ab_z01, or_true, true_or, reduceCtorEq, Option.some.injEq, Int.reduceEq, Int.reduceNe, Int.reduceLT, Int.reduceLE, Int.reduceNeg, Int.reduceAdd, Int.reduceSub, Int.reduceMul, Nat.reduceEqDiff, Nat.reduceAdd, Nat.reduceMul, Int.reduceToNat, ↓reduceIte]
    refine p_i t2.1 (by show 5 < 6; decide) ?_
    have ek : kdI (bA T L (s : Int)) = tkK T L s := by
      rw [bA_nat]
      unfold tkK
      by_cases q : s < L
      · rw [if_pos q, if_pos q]; rfl
      · rw [if_neg q, if_neg q]; rfl
    rw [ek]
    refine F77 _ (if s < L then s + 1 else L) (tx_set t2.2) ((X1.tr xs).tr xs) (by split <;> omega) (by split <;> omega) (fun q => ?_) (fun q => ?_)
    · have hsL : s < L := by
        apply Classical.byContradiction
        intro z
        exact q (by unfold tkK; rw [if_neg z])
      have ekk : tkK T L s = kd T s := by unfold tkK; rw [if_pos hsL]
      unfold tkE
      rw [if_pos hsL, if_neg (by omega), ekk, if_neg (by omega)]
    · unfold tkE
      by_cases hsL : s < L
      · have ekk : tkK T L s = kd T s := by unfold tkK; rw [if_pos hsL]
        rw [if_pos hsL, if_neg (by omega), if_pos (by omega)]
      · rw [if_neg hsL, if_pos (by omega)]
        omega
  refine Vm.intro rfl (Nat.le_of_ble_eq_true rfl) (fun _ => B_X5_advance_0 ?_)
  refine gI_i t.1 rfl (p_i t.1 (by show 3 < 6; decide) ?_)
  refine lp_up (P := fun i => ∀ h1, TX h1 ax ab T L c i e k → Xt (A1 ax) h h1 → s = skp T L i → Vx (d + 2) m_X5_advance 0 0 8 [some (vR (some ax))] [] h1 K) (n := L) ?_ ?_ e he _ (tx_set t.2) xs hs
  · intro h1 t1 X1 hi
    have es : s = L := by rw [hi, skp_step, if_neg (fun z => absurd z.1 (Nat.lt_irrefl L))]
    refine B_X5_advance_8 (gI_i t1.1 rfl (gI_i t1.1 rfl ⟨fun _ => ?_, fun z => absurd (Int.le_refl _) z⟩))
    exact F45 h1 e k (by rw [es]; exact t1) X1
  · intro i hiL ih h1 t1 X1 hi
    refine B_X5_advance_8 (gI_i t1.1 rfl (gI_i t1.1 rfl ⟨fun z => absurd z (by omega), fun _ => ?_⟩))
    refine gI_i t1.1 rfl (cv_i t1.1 (cc_byteAt t1 hT ?_))
    simp only [kI_some, kL_some, kR_some, kV_none, ne_eq, not_true_eq_false, not_false_eq_true, true_implies, false_implies, implies_true, true_and, and_true, ab_z01, or_true, true_or, reduceCtorEq, Option.some.injEq, Int.reduceEq, Int.reduceNe, Int.reduceLT, Int.reduceLE, Int.reduceNeg, Int.reduceAdd, Int.reduceSub, Int.reduceMul, Nat.reduceEqDiff, Nat.reduceAdd, Nat.reduceMul, Int.reduceToNat, ↓reduceIte]
    rw [bA_nat, if_pos hiL]
    rw [skp_step] at hi
    refine ⟨fun z => ?_, fun z => ?_⟩
    · rw [if_neg (fun y => z y.2)] at hi
      exact F45 h1 e k (by rw [hi]; exact t1) X1
    · rw [if_pos ⟨hiL, Classical.byContradiction z⟩] at hi
      refine gI_i t1.1 rfl ⟨i3 (by omega) (by omega), p_i t1.1 (by show 3 < 6; decide) ?_⟩
      exact ih _ (tx_set t1.2) (X1.tr xs) hi
/-- the next token -/
theorem cc_next {d : Nat} {h : AbH} {K : Option AbV → AbH → Prop} {ax ab : Nat} {T : Nat → Int} {L c s : Nat} (t : TK h ax ab T L c s) (hT : txV T L) (kk : ∀ h', TK h' ax ab T L c (nx T L s) → Xt (A1 ax) h h' → K none h') : Vm (d + 2) m_X5_advance [vR (some ax)] h K := cc_advance t.1 hT (tkE_le t.2).2.1 kk
set_option maxRecDepth 100000 in
set_option maxHeartbeats 4000000 in
theorem cc_number {d : Nat} {h : AbH} {K : Option AbV → AbH → Prop} {ax ab : Nat} {T : Nat → Int} {L c s : Nat} {lo hi : Int} (t : TK h ax ab T L c s) (hT : txV T L) (hlo : 0 ≤ lo) (k1 : lo ≤ numH T L s ∧ numH T L s ≤ hi → K (some (vI (numH T L s))) h) (k0 : ¬ (lo ≤ numH T L s ∧ numH T L s ≤ hi) → K (some (vI (-1))) h) : Vm (d + 2) m_X5_number [vR (some ax), vI lo, vI hi] h K := by
  have hL := hT.1
  obtain ⟨t1, hs⟩ := t
  have bad : numH T L s = -1 → K (some (vI (-1))) h := fun q => k0 (by rw [q]; omega)
  have hE := tkE_le (T := T) hs
  refine Vm.intro rfl (Nat.le_of_ble_eq_true rfl) (fun _ => B_X5_number_0 ?_)
  refine gI_i t1.1 rfl ⟨fun q => ?_, fun q => ?_⟩
  · refine bad ?_
    unfold numH
    rw [if_neg]
    rintro ⟨y1, y2, y3⟩
    refine q ?_
    have : tkK T L s = 2 := by unfold tkK; rw [if_pos y1]; exact kd_2.mpr y2
    rw [this]; rfl
  have q : tkK T L s = 2 := by have := Classical.byContradiction q; omega
  have hsL : s < L := by
    apply Classical.byContradiction
    intro z
    unfold tkK at q
    rw [if_neg z] at q
    omega
  have hk2 : kd T s = 2 := by unfold tkK at q; rw [if_pos hsL] at q; exact q
  have hd := kd_2.mp hk2
  refine gI_i t1.1 rfl (gI_i t1.1 rfl ⟨i3 (by omega) (by omega), fun q2 => ?_, fun q2 => ?_⟩)
  · refine gI_i t1.1 rfl ?_
    have st : ∀ (i : Nat) (v : Int), i < L → (0 ≤ v ∧ v ≤ 1000) → (0 ≤ T i ∧ T i ≤ 255) → ¬ ((tkE T L s : Int) ≤ (i : Int)) → Vx (d + 2) m_X5_number 0 0 31 [some (vR (some ax)), some (vI lo), some (vI hi), some (vI (10 * v + T i - 48)), some (vI ((i : Int) + 1))] [] h K → Vx (d + 2) m_X5_number 0 0 31 [some (vR (some ax)), some (vI lo), some (vI hi), some (vI v), some (vI (i : Int))] [] h K := by
      intro i v hi hv hTi hne hh
      refine B_X5_number_31 (gI_i t1.1 rfl ⟨fun z => absurd z hne, fun _ => ⟨i3 (by omega) (by omega), cv_i t1.1 (cc_byteAt t1 hT ?_)⟩⟩)
      simp only [kI_some, kL_some, kR_some, kV_none, ne_eq, not_true_eq_false, not_false_eq_true, true_implies, false_implies, implies_true, true_and, and_true, ab_z01, or_true, true_or, reduceCtorEq, Option.some.injEq, Int.reduceEq, Int.reduceNe, Int.reduceLT, Int.reduceLE, Int.reduceNeg, Int.reduceAdd, Int.reduceSub, Int.reduceMul, Nat.reduceEqDiff, Nat.reduceAdd, Nat.reduceMul, Int.reduceToNat, ↓reduceIte]
      rw [bA_nat, if_pos hi]
      exact ⟨i3 (by omega) (by omega), i3 (by omega) (by omega), i3 (by omega) (by omega), hh⟩
    have en : ∀ (i : Nat) (v : Int), (tkE T L s : Int) ≤ (i : Int) → v = numH T L s → Vx (d + 2) m_X5_number 0 0 31 [some (vR (some ax)), some (vI lo), some (vI hi), some (vI v), some (vI (i : Int))] [] h K := by
      intro i v hle hv
      rw [hv]
      refine B_X5_number_31 (gI_i t1.1 rfl ⟨fun _ => ?_, fun z => absurd hle z⟩)
      refine cc_within (fun y => ?_) (fun y => ?_) <;> simp only [kI_some, kL_some, kR_some, kV_none, ne_eq, not_true_eq_false, not_false_eq_true, true_implies, false_implies, implies_true, true_and, and_true, ab_z01, or_true, true_or, reduceCtorEq, Option.some.injEq, Int.reduceEq, Int.reduceNe, Int.reduceLT, Int.reduceLE, Int.reduceNeg, Int.reduceAdd, Int.reduceSub, Int.reduceMul, Nat.reduceEqDiff, Nat.reduceAdd, Nat.reduceMul, Int.reduceToNat, ↓reduceIte]
      · exact k1 y
      · exact k0 y
    have hn : numH T L s = if tkE T L s = s + 1 then T s - 48 else 10 * (T s - 48) + T (s + 1) - 48 := by
      unfold numH
      rw [if_pos ⟨hsL, hd, by omega⟩]
    refine st s 0 hsL (by omega) (by omega) (by omega) ?_
    by_cases c1 : tkE T L s = s + 1
    · rw [if_pos c1] at hn
      exact en (s + 1) _ (by omega) (by rw [hn]; omega)
    · rw [if_neg c1] at hn
      have hk3 := kd_2.mp (show kd T (s + 1) = 2 by rw [tkE_in (L := L) (s := s) (by omega) (by omega)]; exact hk2)
      refine st (s + 1) _ (by omega) (by omega) (by omega) (by omega) ?_
      exact en (s + 2) _ (by omega) (by rw [hn]; omega)
  · refine bad ?_
    unfold numH
    rw [if_neg]
    rintro ⟨y1, y2, y3⟩
    omega
set_option maxRecDepth 100000 in
set_option maxHeartbeats 4000000 in
theorem cc_letter {d : Nat} {h : AbH} {K : Option AbV → AbH → Prop} {ax ab : Nat} {T : Nat → Int} {L c s : Nat} (t : TK h ax ab T L c s) (hT : txV T L) (kk : K (some (vI (sndH T L s))) h) : Vm (d + 2) m_X5_letter [vR (some ax)] h K := by
  have hL := hT.1
  obtain ⟨t1, hs⟩ := t
  have hE := tkE_le (T := T) hs
  unfold sndH at kk
  refine Vm.intro rfl (Nat.le_of_ble_eq_true rfl) (fun _ => B_X5_letter_0 ?_)
  refine gI_i t1.1 rfl ⟨fun q => ?_, fun q => ?_⟩
  · rw [if_neg] at kk
    · exact kk
    · rintro ⟨y1, y2, y3⟩
      refine q ?_
      have : tkK T L s = 1 := by unfold tkK; rw [if_pos y1]; exact kd_1.mpr y2
      rw [this]; rfl
  have q : tkK T L s = 1 := by have := Classical.byContradiction q; omega
  have hsL : s < L := by
    apply Classical.byContradiction
    intro z
    unfold tkK at q
    rw [if_neg z] at q
    omega
  have hd := kd_1.mp (show kd T s = 1 by unfold tkK at q; rw [if_pos hsL] at q; exact q)
  refine gI_i t1.1 rfl (gI_i t1.1 rfl ⟨i3 (by omega) (by omega), fun q2 => ?_, fun q2 => ?_⟩)
  · rw [if_neg (fun z => q2 (by omega))] at kk
    exact kk
  · refine gI_i t1.1 rfl (cv_i t1.1 (cc_byteAt t1 hT ?_))
    simp only [kI_some, kL_some, kR_some, kV_none, ne_eq, not_true_eq_false, not_false_eq_true, true_implies, false_implies, implies_true, true_and, and_true, ab_z01, or_true, true_or, reduceCtorEq, Option.some.injEq, Int.reduceEq, Int.reduceNe, Int.reduceLT, Int.reduceLE, Int.reduceNeg, Int.reduceAdd, Int.reduceSub, Int.reduceMul, Nat.reduceEqDiff, Nat.reduceAdd, Nat.reduceMul, Int.reduceToNat, ↓reduceIte]
    rw [bA_nat, if_pos hsL]
    rw [if_pos ⟨hsL, hd, by omega⟩] at kk
    exact ⟨i3 (by omega) (by omega), kk⟩
def lF (T : Nat → Int) (s n : Nat) : List Int := (List.range n).map (fun i => T (s + i) - 97)
theorem lF_s (T : Nat → Int) (s n : Nat) : lF T s (n + 1) = lF T s n ++ [T (s + n) - 97] := by
  unfold lF
  rw [List.range_succ, List.map_append]
  rfl
theorem lF_len (T : Nat → Int) (s n : Nat) : (lF T s n).length = n := by unfold lF; rw [List.length_map, List.length_range]
theorem lF_V {T : Nat → Int} {s n : Nat} (hn : n ≤ 10) (h : ∀ i, i < n → 97 ≤ T (s + i) ∧ T (s + i) ≤ 122) : fV (lF T s n) := by
  refine ⟨by rw [lF_len]; exact hn, fun i hi => ?_⟩
  rw [lF_len] at hi
  have := h i hi
  unfold lF
  rw [List.getD_eq_getElem?_getD, List.getElem?_map, List.getElem?_range hi]
  show 0 ≤ T (s + i) - 97 ∧ T (s + i) - 97 ≤ 25
  omega
set_option maxRecDepth 100000 in
set_option maxHeartbeats 4000000 in
theorem cc_form {d : Nat} {h : AbH} {K : Option AbV → AbH → Prop} {ax ab : Nat} {T : Nat → Int} {L c s m : Nat} (t : TK h ax ab T L c s) (hT : txV T L) (hm : m ≤ 10) (k1 : s < L ∧ (97 ≤ T s ∧ T s ≤ 122) ∧ tkE T L s ≤ s + m → K (some (vL (enc (lF T s (tkE T L s - s)) : Int))) h) (k0 : ¬ (s < L ∧ (97 ≤ T s ∧ T s ≤ 122) ∧ tkE T L s ≤ s + m) → K (some (vL (-1))) h) : Vm (d + 2) m_X5_form [vR (some ax), vI (m : Int)] h K := by
  have hL := hT.1
  obtain ⟨t1, hs⟩ := t
  have hE := tkE_le (T := T) hs
  refine Vm.intro rfl (Nat.le_of_ble_eq_true rfl) (fun _ => B_X5_form_0 ?_)
  refine gI_i t1.1 rfl ⟨fun q => k0 ?_, fun q => ?_⟩
  · rintro ⟨y1, y2, y3⟩
    refine q ?_
    have : tkK T L s = 1 := by unfold tkK; rw [if_pos y1]; exact kd_1.mpr y2
    rw [this]; rfl
  have q : tkK T L s = 1 := by have := Classical.byContradiction q; omega
  have hsL : s < L := by
    apply Classical.byContradiction
    intro z
    unfold tkK at q
    rw [if_neg z] at q
    omega
  have hk1 : kd T s = 1 := by unfold tkK at q; rw [if_pos hsL] at q; exact q
  have hd := kd_1.mp hk1
  refine gI_i t1.1 rfl (gI_i t1.1 rfl ⟨i3 (by omega) (by omega), fun q2 => ?_, fun q2 => k0 (by omega)⟩)
  refine gI_i t1.1 rfl ?_
  have k1 := k1 ⟨hsL, hd, by omega⟩
  obtain ⟨n, hn⟩ : ∃ n, n = tkE T L s - s := ⟨_, rfl⟩
  rw [← hn] at k1
  have hin : ∀ i, i < n → 97 ≤ T (s + i) ∧ T (s + i) ≤ 122 := fun i hi => kd_1.mp (by rw [tkE_in (L := L) (s := s) (by omega) (by omega)]; exact hk1)
  refine lp_up (P := fun i => Vx (d + 2) m_X5_form 0 0 33 [some (vR (some ax)), some (vI (m : Int)), some (vL (enc (lF T s i) : Int)), none, some (vI ((s + i : Nat) : Int))] [] h K) (n := n) ?_ ?_ 0 (by omega)
  · exact B_X5_form_33 (gI_i t1.1 rfl ⟨fun _ => k1, fun z => absurd (by omega) z⟩)
  · intro i hi ih
    refine B_X5_form_33 (gI_i t1.1 rfl ⟨fun z => absurd z (by omega), fun _ => ?_⟩)
    refine gI_i t1.1 rfl ⟨i3 (by omega) (by omega), cv_i t1.1 (cc_byteAt t1 hT ?_)⟩
    simp only [kI_some, kL_some, kR_some, kV_none, ne_eq, not_true_eq_false, not_false_eq_true, true_implies, false_implies, implies_true, true_and, and_true, ab_z01, or_true, true_or, reduceCtorEq, Option.some.injEq, Int.reduceEq, Int.reduceNe, Int.reduceLT, Int.reduceLE, Int.reduceNeg, Int.reduceAdd, Int.reduceSub, Int.reduceMul, Nat.reduceEqDiff, Nat.reduceAdd, Nat.reduceMul, Int.reduceToNat, ↓reduceIte]
    rw [bA_nat, if_pos (by omega)]
    have hin := hin i hi
    refine ⟨i3 (by omega) (by omega), ?_⟩
    have e1 : ((s + i : Nat) : Int) - (s : Int) = ((lF T s i).length : Int) := by rw [lF_len]; omega
    rw [e1]
    refine cc_longer (lF_V (by omega) (fun j hj => kd_1.mp (by rw [tkE_in (L := L) (show s ≤ s + j by omega) (by omega)]; exact hk1))) (by rw [lF_len]; omega) (by omega) ?_
    simp only [kI_some, kL_some, kR_some, kV_none, ne_eq, not_true_eq_false, not_false_eq_true, true_implies, false_implies, implies_true, true_and, and_true, ab_z01, or_true, true_or, reduceCtorEq, Option.some.injEq, Int.reduceEq, Int.reduceNe, Int.reduceLT, Int.reduceLE, Int.reduceNeg, Int.reduceAdd, Int.reduceSub, Int.reduceMul, Nat.reduceEqDiff, Nat.reduceAdd, Nat.reduceMul, Int.reduceToNat, ↓reduceIte]
    rw [← lF_s]
    exact ⟨i3 (by omega) (by omega), ih⟩
set_option maxRecDepth 100000 in
set_option maxHeartbeats 4000000 in
theorem cc_isSign {d : Nat} {h : AbH} {K : Option AbV → AbH → Prop} {ax ab : Nat} {T : Nat → Int} {L c s : Nat} {v : Int} (t : TK h ax ab T L c s) (hT : txV T L) (hv : 0 ≤ v) (k1 : s < L ∧ T s = v → K (some (vI 1)) h) (k0 : ¬ (s < L ∧ T s = v) → K (some (vI 0)) h) : Vm (d + 2) m_X5_isSign [vR (some ax), vI v] h K := by
  obtain ⟨t1, hs⟩ := t
  refine Vm.intro rfl (Nat.le_of_ble_eq_true rfl) (fun _ => B_X5_isSign_0 ?_)
  refine gI_i t1.1 rfl (cv_i t1.1 (cc_byteAt t1 hT ?_))
  simp only [kI_some, kL_some, kR_some, kV_none, ne_eq, not_true_eq_false, not_false_eq_true, true_implies, false_implies, implies_true, true_and, and_true, ab_z01, or_true, true_or, reduceCtorEq, Option.some.injEq, Int.reduceEq, Int.reduceNe, Int.reduceLT, Int.reduceLE, Int.reduceNeg, Int.reduceAdd, Int.reduceSub, Int.reduceMul, Nat.reduceEqDiff, Nat.reduceAdd, Nat.reduceMul, Int.reduceToNat, ↓reduceIte]
  rw [bA_nat]
  by_cases q : s < L
  · rw [if_pos q]
    exact ⟨fun z => k0 (fun y => z y.2), fun z => k1 ⟨q, Classical.byContradiction z⟩⟩
  · rw [if_neg q]
    exact ⟨fun _ => k0 (fun y => q y.1), fun z => absurd (by omega) z⟩
set_option maxRecDepth 100000 in
set_option maxHeartbeats 4000000 in
theorem cc_environment {d : Nat} {h : AbH} {K : Option AbV → AbH → Prop} {ax ab : Nat} {T : Nat → Int} {L c s : Nat} (t : TK h ax ab T L c s) (hT : txV T L) (k0 : s < L ∧ T s = 46 → K (some (vI 0)) h) (k1 : s < L ∧ T s = 62 → K (some (vI 1)) h) (k2 : s < L ∧ T s = 60 → K (some (vI 2)) h) (kn : ¬ (s < L ∧ T s = 46) → ¬ (s < L ∧ T s = 62) → ¬ (s < L ∧ T s = 60) → K (some (vI (-1))) h) : Vm (d + 3) m_X5_environment [vR (some ax)] h K := by
  refine Vm.intro rfl (Nat.le_of_ble_eq_true rfl) (fun _ => B_X5_environment_0 ?_)
  refine cv_i t.1.1 (cc_isSign t hT (by decide) (fun q => ?_) (fun q => ?_)) <;> simp only [kI_some, kL_some, kR_some, kV_none, ne_eq, not_true_eq_false, not_false_eq_true, true_implies, false_implies, implies_true, true_and, and_true, ab_z01, or_true, true_or, reduceCtorEq, Option.some.injEq, Int.reduceEq, Int.reduceNe, Int.reduceLT, Int.reduceLE, Int.reduceNeg, Int.reduceAdd, Int.reduceSub, Int.reduceMul, Nat.reduceEqDiff, Nat.reduceAdd, Nat.reduceMul, Int.reduceToNat, ↓reduceIte]
  · exact k0 q
  refine cv_i t.1.1 (cc_isSign t hT (by decide) (fun q2 => ?_) (fun q2 => ?_)) <;> simp only [kI_some, kL_some, kR_some, kV_none, ne_eq, not_true_eq_false, not_false_eq_true, true_implies, false_implies, implies_true, true_and, and_true, ab_z01, or_true, true_or, reduceCtorEq, Option.some.injEq, Int.reduceEq, Int.reduceNe, Int.reduceLT, Int.reduceLE, Int.reduceNeg, Int.reduceAdd, Int.reduceSub, Int.reduceMul, Nat.reduceEqDiff, Nat.reduceAdd, Nat.reduceMul, Int.reduceToNat, ↓reduceIte]
  · exact k1 q2
  refine cv_i t.1.1 (cc_isSign t hT (by decide) (fun q3 => ?_) (fun q3 => ?_)) <;> simp only [kI_some, kL_some, kR_some, kV_none, ne_eq, not_true_eq_false, not_false_eq_true, true_implies, false_implies, implies_true, true_and, and_true, ab_z01, or_true, true_or, reduceCtorEq, Option.some.injEq, Int.reduceEq, Int.reduceNe, Int.reduceLT, Int.reduceLE, Int.reduceNeg, Int.reduceAdd, Int.reduceSub, Int.reduceMul, Nat.reduceEqDiff, Nat.reduceAdd, Nat.reduceMul, Int.reduceToNat, ↓reduceIte]
  · exact k2 q3
  · exact kn q q2 q3
