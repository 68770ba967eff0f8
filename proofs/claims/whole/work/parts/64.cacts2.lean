set_option maxRecDepth 100000 in
set_option maxHeartbeats 4000000 in
theorem cp_undo {d : Nat} {h : AbH} {K : Option AbV → AbH → Prop} {A : Nat → Nat} {M : Nat → Prop} {w : Nat → Int} {u : Nat} {pr : Nat → Nat → Int} {kv : Nat → Option (Nat → Int)} {T : Nat → Int} {L : Nat} (c : CS A M h w u pr kv T L) (kE : u = 0 → K (some (vI (-4))) h) (kk : 0 < u → ∀ h1, CS A M h1 (pr (u - 1)) (u - 1) pr kv T L → Xt (QA A) h h1 → K (some (vI ((u - 1 : Nat) : Int))) h1) : Vm (d + 3) m_X9_undo [vR (some (A 0))] h K := by
  obtain ⟨s0, ⟨nw, o1, cw, hdg⟩, ⟨g, ps, u8, gr, gx⟩, s3, s4, s5, s6, s7⟩ := c
  have hA := s0.1
  refine Vm.intro rfl (Nat.le_of_ble_eq_true rfl) (fun _ => B_X9_undo_0 ?_)
  refine gR_i o1 rfl (cv_i ps.1 (cm_platest ps u8 ?_))
  by_cases z : u = 0
  · rw [if_pos z]
    simp only [kI_some, kL_some, kR_some, kV_none, ne_eq, not_true_eq_false, not_false_eq_true, true_implies, false_implies, implies_true, true_and, and_true, ab_z01, or_true, true_or, reduceCtorEq, Option.some.injEq, Int.reduceEq, Int.reduceNe, Int.reduceLT, Int.reduceLE, Int.reduceNeg, Int.reduceAdd, Int.reduceSub, Int.reduceMul, Nat.reduceEqDiff, Nat.reduceAdd, Nat.reduceMul, Int.reduceToNat, ↓reduceIte]
    exact kE z
  · rw [if_neg z]
    obtain ⟨n, rfl⟩ : ∃ n, u = n + 1 := ⟨u - 1, by omega⟩
    have en : n + 1 - 1 = n := by omega
    rw [en] at kk ⊢
    obtain ⟨b, b1, b2, b3⟩ := gr n (by omega)
    rw [b1]
    simp only [kI_some, kL_some, kR_some, kV_none, ne_eq, not_true_eq_false, not_false_eq_true, true_implies, false_implies, implies_true, true_and, and_true, ab_z01, or_true, true_or, reduceCtorEq, Option.some.injEq, Int.reduceEq, Int.reduceNe, Int.reduceLT, Int.reduceLE, Int.reduceNeg, Int.reduceAdd, Int.reduceSub, Int.reduceMul, Nat.reduceEqDiff, Nat.reduceAdd, Nat.reduceMul, Int.reduceToNat, ↓reduceIte]
    refine gR_i o1 rfl (cv_i ps.1 (cm_pforget ps (by omega) (fun h1 ps1 x1 k7 => ?_)))
    simp only [kI_some, kL_some, kR_some, kV_none, ne_eq, not_true_eq_false, not_false_eq_true, true_implies, false_implies, implies_true, true_and, and_true, ab_z01, or_true, true_or, reduceCtorEq, Option.some.injEq, Int.reduceEq, Int.reduceNe, Int.reduceLT, Int.reduceLE, Int.reduceNeg, Int.reduceAdd, Int.reduceSub, Int.reduceMul, Nat.reduceEqDiff, Nat.reduceAdd, Nat.reduceMul, Int.reduceToNat, ↓reduceIte]
    have x1' : Xt (SA A [0, 1, 2]) h h1 := x1.mono (fun q z => by
      rcases z with z | z
      · exact ⟨1, by decide, z⟩
      · exact ⟨2, by decide, z⟩)
    have o1' : hpO h1 (A 0) = some (8, oF A nw) := x1.O (fun z => by
      rcases z with z | z
      · exact absurd (hA 0 1 (by decide) (by decide) z) (by decide)
      · exact absurd (hA 0 2 (by decide) (by decide) z) (by decide)) o1
    refine p_i o1' (by show 0 < 7; decide) ?_
    have x2 : Xt (SA A [0, 1, 2]) h1 (hsO h1 (A 0) (8, oF A b)) := xt_O (Or.inl ⟨0, by decide, rfl⟩)
    have x := x1'.tr x2
    have hF : ∀ q, SA A [0, 1, 2] q → PQ A M q := fun q z => Or.inl (sa_qa (by decide) q z)
    have nn : ∀ i, i < 19 → i ∉ [0, 1, 2] → ¬ SA A [0, 1, 2] (A i) := fun i hi hn => sa_not hA (by decide) hi hn
    have o2 : hpO (hsO h1 (A 0) (8, oF A b)) (A 0) = some (8, oF A b) := by rw [hO_O, if_pos rfl]
    have p2 : hpO (hsO h1 (A 0) (8, oF A b)) (A 1) = some (3, [vR (some (A 2)), vI (n : Int)]) := by
      rw [hO_O, if_neg (fun z => absurd (hA 1 0 (by decide) (by decide) z) (by decide))]
      exact ps1.1
    refine gR_i o2 rfl (gI_i p2 rfl ?_)
    refine kk (by omega) _ ⟨s0.mv x, ⟨b, o2, b2.mv (x.mono hF), b3⟩, ⟨g, ⟨p2, ps1.2⟩, by omega, fun i hi => ?_, fun i hi y hy => ?_⟩, s3.mv x hF (nn _ (by decide) (by decide)), s4.mv x (nn _ (by decide) (by decide)) (nn _ (by decide) (by decide)), s5.mv x (nn _ (by decide) (by decide)) (nn _ (by decide) (by decide)) (nn _ (by decide) (by decide)), s6.mv x (nn _ (by decide) (by decide)) (nn _ (by decide) (by decide)) (nn _ (by decide) (by decide)) (nn _ (by decide) (by decide)) (nn _ (by decide) (by decide)), s7.mv x (nn _ (by decide) (by decide)) (nn _ (by decide) (by decide)) (nn _ (by decide) (by decide)) (nn _ (by decide) (by decide)) (nn _ (by decide) (by decide))⟩ (x.mono (sa_qa (by decide)))
    · obtain ⟨b', c1, c2, c3⟩ := gr i (by omega)
      exact ⟨b', c1, c2.mv (x.mono hF), c3⟩
    · obtain ⟨q1, fs, q2⟩ := gx i hi y hy
      exact ⟨q1, fs, x.O (fun z => q1 (hF _ z)) q2⟩
def kvU (kv : Nat → Option (Nat → Int)) (k : Nat) (w : Nat → Int) (i : Nat) : Option (Nat → Int) := if i = k then some w else kv i
set_option maxRecDepth 100000 in
set_option maxHeartbeats 4000000 in
theorem cp_keep {d : Nat} {h : AbH} {K : Option AbV → AbH → Prop} {A : Nat → Nat} {M : Nat → Prop} {w : Nat → Int} {u : Nat} {pr : Nat → Nat → Int} {kv : Nat → Option (Nat → Int)} {T : Nat → Int} {L : Nat} (c : CS A M h w u pr kv T L) {v : Int} (kE : ¬ (0 ≤ v ∧ v ≤ 1) → K (some (vI (-3))) h) (kk : 0 ≤ v ∧ v ≤ 1 → ∀ h1, CS A M h1 w u pr (kvU kv v.toNat w) T L → Xt (QA A) h h1 → K (some (vI (w 0))) h1) : Vm (d + 2) m_X9_keep [vR (some (A 0)), vI v] h K := by
  obtain ⟨s0, ⟨nw, o1, cw, hdg⟩, s2, ⟨sv, sv1, sv2⟩, s4, s5, s6, s7⟩ := c
  have hA := s0.1
  refine Vm.intro rfl (Nat.le_of_ble_eq_true rfl) (fun _ => B_X9_keep_0 ?_)
  refine cc_within (fun q => ?_) (fun q => ?_) <;> simp only [kI_some, kL_some, kR_some, kV_none, ne_eq, not_true_eq_false, not_false_eq_true, true_implies, false_implies, implies_true, true_and, and_true, ab_z01, or_true, true_or, reduceCtorEq, Option.some.injEq, Int.reduceEq, Int.reduceNe, Int.reduceLT, Int.reduceLE, Int.reduceNeg, Int.reduceAdd, Int.reduceSub, Int.reduceMul, Nat.reduceEqDiff, Nat.reduceAdd, Nat.reduceMul, Int.reduceToNat, ↓reduceIte]
  rotate_left
  · exact kE q
  obtain ⟨al, ao, af, ae, ob⟩ := cw.ob
  refine gR_i o1 rfl (gR_i o1 rfl (sR_i sv1 (by omega) (by omega) (fun b' e => ?_) ?_))
  · have e : nw = b' := by simpa using e
    rw [← e]
    exact ⟨_, ob⟩
  have x : Xt (SA A [3]) h (hsR h (A 3) (7, 2, va_up sv v.toNat (some nw))) := xt_R (Or.inl ⟨3, by decide, rfl⟩)
  have hF : ∀ q, SA A [3] q → PQ A M q := fun q z => Or.inl (sa_qa (by decide) q z)
  have nn : ∀ i, i < 19 → i ∉ [3] → ¬ SA A [3] (A i) := fun i hi hn => sa_not hA (by decide) hi hn
  refine gR_i (show hpO (hsR h (A 3) _) (A 0) = _ from o1) rfl (gI_i (show hpO (hsR h (A 3) _) nw = _ from ob) rfl ?_)
  refine kk q _ ⟨s0.mv x, ⟨nw, o1, cw.mv (x.mono hF), hdg⟩, s2.mv x hF (nn _ (by decide) (by decide)) (nn _ (by decide) (by decide)), ⟨va_up sv v.toNat (some nw), by rw [hR_R, if_pos rfl], fun k hk => ⟨fun v' hv' => ?_, fun hv' => ?_⟩⟩, s4.mv x (nn _ (by decide) (by decide)) (nn _ (by decide) (by decide)), s5.mv x (nn _ (by decide) (by decide)) (nn _ (by decide) (by decide)) (nn _ (by decide) (by decide)), s6.mv x (nn _ (by decide) (by decide)) (nn _ (by decide) (by decide)) (nn _ (by decide) (by decide)) (nn _ (by decide) (by decide)) (nn _ (by decide) (by decide)), s7.mv x (nn _ (by decide) (by decide)) (nn _ (by decide) (by decide)) (nn _ (by decide) (by decide)) (nn _ (by decide) (by decide)) (nn _ (by decide) (by decide))⟩ (x.mono (sa_qa (by decide)))
  · unfold kvU at hv'
    by_cases e : k = v.toNat
    · rw [if_pos e] at hv'
      have hv' : w = v' := by simpa using hv'
      rw [e, vu_same, ← hv']
      exact ⟨nw, rfl, cw.mv (x.mono hF), hdg⟩
    · rw [if_neg e] at hv'
      rw [vu_ne e]
      obtain ⟨b, b1, b2, b3⟩ := (sv2 k hk).1 v' hv'
      exact ⟨b, b1, b2.mv (x.mono hF), b3⟩
  · unfold kvU at hv'
    by_cases e : k = v.toNat
    · rw [if_pos e] at hv'
      cases hv'
    · rw [if_neg e] at hv'
      rw [vu_ne e]
      exact (sv2 k hk).2 hv'
set_option maxRecDepth 100000 in
set_option maxHeartbeats 4000000 in
theorem cp_back {d : Nat} {h : AbH} {K : Option AbV → AbH → Prop} {A : Nat → Nat} {M : Nat → Prop} {w : Nat → Int} {u : Nat} {pr : Nat → Nat → Int} {kv : Nat → Option (Nat → Int)} {T : Nat → Int} {L : Nat} (c : CS A M h w u pr kv T L) {v : Int} (kE : ¬ (0 ≤ v ∧ v ≤ 1) → K (some (vI (-3))) h) (kN : 0 ≤ v ∧ v ≤ 1 → kv v.toNat = none → K (some (vI (-4))) h) (kk : 0 ≤ v ∧ v ≤ 1 → ∀ W, kv v.toNat = some W → ∀ h1, CS A M h1 W 0 pr kv T L → Xt (QA A) h h1 → K (some (vI (W 0))) h1) : Vm (d + 2) m_X9_back [vR (some (A 0)), vI v] h K := by
  obtain ⟨s0, ⟨nw, o1, cw, hdg⟩, ⟨g, ps, u8, gr, gx⟩, s3, s4, s5, s6, s7⟩ := c
  obtain ⟨sv, sv1, sv2⟩ := id s3
  have hA := s0.1
  refine Vm.intro rfl (Nat.le_of_ble_eq_true rfl) (fun _ => B_X9_back_0 ?_)
  refine cc_within (fun q => ?_) (fun q => ?_) <;> simp only [kI_some, kL_some, kR_some, kV_none, ne_eq, not_true_eq_false, not_false_eq_true, true_implies, false_implies, implies_true, true_and, and_true, ab_z01, or_true, true_or, reduceCtorEq, Option.some.injEq, Int.reduceEq, Int.reduceNe, Int.reduceLT, Int.reduceLE, Int.reduceNeg, Int.reduceAdd, Int.reduceSub, Int.reduceMul, Nat.reduceEqDiff, Nat.reduceAdd, Nat.reduceMul, Int.reduceToNat, ↓reduceIte]
  rotate_left
  · exact kE q
  refine gR_i o1 rfl (lR_i sv1 (by omega) (by omega) ?_)
  cases hk : kv v.toNat with
  | none =>
    rw [(sv2 v.toNat (by omega)).2 hk]
    exact ⟨fun z => absurd rfl z, fun _ => kN q hk⟩
  | some W =>
    obtain ⟨b, b1, b2, b3⟩ := (sv2 v.toNat (by omega)).1 W hk
    rw [b1]
    refine ⟨fun _ => ?_, fun z => absurd (by simp) z⟩
    refine p_i o1 (by show 0 < 7; decide) ?_
    have x1 : Xt (SA A [0, 1, 2]) h (hsO h (A 0) (8, oF A b)) := xt_O (Or.inl ⟨0, by decide, rfl⟩)
    have o2 : hpO (hsO h (A 0) (8, oF A b)) (A 0) = some (8, oF A b) := by rw [hO_O, if_pos rfl]
    have p2 : PS (hsO h (A 0) (8, oF A b)) (A 1) (A 2) g u := ⟨by rw [hO_O, if_neg (fun z => absurd (hA 1 0 (by decide) (by decide) z) (by decide))]; exact ps.1, ps.2⟩
    refine gR_i o2 rfl (cv_i p2.1 (cm_pclear p2 (fun h1 ps1 x2 k7 => ?_)))
    simp only [kI_some, kL_some, kR_some, kV_none, ne_eq, not_true_eq_false, not_false_eq_true, true_implies, false_implies, implies_true, true_and, and_true, ab_z01, or_true, true_or, reduceCtorEq, Option.some.injEq, Int.reduceEq, Int.reduceNe, Int.reduceLT, Int.reduceLE, Int.reduceNeg, Int.reduceAdd, Int.reduceSub, Int.reduceMul, Nat.reduceEqDiff, Nat.reduceAdd, Nat.reduceMul, Int.reduceToNat, ↓reduceIte]
    have x2' : Xt (SA A [0, 1, 2]) (hsO h (A 0) (8, oF A b)) h1 := x2.mono (fun q z => by
      rcases z with z | z
      · exact ⟨1, by decide, z⟩
      · exact ⟨2, by decide, z⟩)
    have o3 : hpO h1 (A 0) = some (8, oF A b) := x2.O (fun z => by
      rcases z with z | z
      · exact absurd (hA 0 1 (by decide) (by decide) z) (by decide)
      · exact absurd (hA 0 2 (by decide) (by decide) z) (by decide)) o2
    have x := x1.tr x2'
    have hF : ∀ q, SA A [0, 1, 2] q → PQ A M q := fun q z => Or.inl (sa_qa (by decide) q z)
    have nn : ∀ i, i < 19 → i ∉ [0, 1, 2] → ¬ SA A [0, 1, 2] (A i) := fun i hi hn => sa_not hA (by decide) hi hn
    have b2' := b2.mv (x.mono hF)
    obtain ⟨_, _, _, _, ob⟩ := b2'.ob
    refine gR_i o3 rfl (gI_i ob rfl ?_)
    refine kk q W hk h1 ⟨s0.mv x, ⟨b, o3, b2', b3⟩, ⟨g, ps1, by omega, fun i hi => absurd hi (by omega), fun i hi y hy => ?_⟩, s3.mv x hF (nn _ (by decide) (by decide)), s4.mv x (nn _ (by decide) (by decide)) (nn _ (by decide) (by decide)), s5.mv x (nn _ (by decide) (by decide)) (nn _ (by decide) (by decide)) (nn _ (by decide) (by decide)), s6.mv x (nn _ (by decide) (by decide)) (nn _ (by decide) (by decide)) (nn _ (by decide) (by decide)) (nn _ (by decide) (by decide)) (nn _ (by decide) (by decide)), s7.mv x (nn _ (by decide) (by decide)) (nn _ (by decide) (by decide)) (nn _ (by decide) (by decide)) (nn _ (by decide) (by decide)) (nn _ (by decide) (by decide))⟩ (x.mono (sa_qa (by decide)))
    obtain ⟨q1, fs, q2⟩ := gx i hi y hy
    exact ⟨q1, fs, x.O (fun z => q1 (hF _ z)) q2⟩
/-! the text -/
theorem CS.txt {A : Nat → Nat} {M : Nat → Prop} {h h' : AbH} {w : Nat → Int} {u : Nat} {pr : Nat → Nat → Int} {kv : Nat → Option (Nat → Int)} {T T' : Nat → Int} {L L' : Nat} (c : CS A M h w u pr kv T L) (x : Xt (SA A [4, 5]) h h') (s4' : S4 A h' T' L') : CS A M h' w u pr kv T' L' := by
  obtain ⟨s0, s1, s2, s3, s4, s5, s6, s7⟩ := c
  have hF : ∀ q, SA A [4, 5] q → PQ A M q := fun q z => Or.inl (sa_qa (by decide) q z)
  have nn : ∀ i, i < 19 → i ∉ [4, 5] → ¬ SA A [4, 5] (A i) := fun i hi hn => sa_not s0.1 (by decide) hi hn
  exact ⟨s0.mv x, s1.mv x hF (nn _ (by decide) (by decide)), s2.mv x hF (nn _ (by decide) (by decide)) (nn _ (by decide) (by decide)), s3.mv x hF (nn _ (by decide) (by decide)), s4', s5.mv x (nn _ (by decide) (by decide)) (nn _ (by decide) (by decide)) (nn _ (by decide) (by decide)), s6.mv x (nn _ (by decide) (by decide)) (nn _ (by decide) (by decide)) (nn _ (by decide) (by decide)) (nn _ (by decide) (by decide)) (nn _ (by decide) (by decide)), s7.mv x (nn _ (by decide) (by decide)) (nn _ (by decide) (by decide)) (nn _ (by decide) (by decide)) (nn _ (by decide) (by decide)) (nn _ (by decide) (by decide))⟩
set_option maxRecDepth 100000 in
set_option maxHeartbeats 4000000 in
theorem cp_type {d : Nat} {h : AbH} {K : Option AbV → AbH → Prop} {A : Nat → Nat} {M : Nat → Prop} {w : Nat → Int} {u : Nat} {pr : Nat → Nat → Int} {kv : Nat → Option (Nat → Int)} {T : Nat → Int} {L : Nat} (c : CS A M h w u pr kv T L) {v : Int} (k3 : ¬ (0 ≤ v ∧ v ≤ 255) → K (some (vI (-3))) h) (k5 : 0 ≤ v ∧ v ≤ 255 → L = 200 → K (some (vI (-5))) h) (kk : 0 ≤ v ∧ v ≤ 255 → L < 200 → ∀ h1, CS A M h1 w u pr kv (va_up T L v) (L + 1) → Xt (QA A) h h1 → K (some (vI ((L : Int) + 1))) h1) : Vm (d + 3) m_X9_type [vR (some (A 0)), vI v] h K := by
  obtain ⟨nw, o1, cw, hdg⟩ := c.2.1
  obtain ⟨hT, tc, ts, te, tk', tx⟩ := c.2.2.2.2.1
  have hL := hT.1
  have hA := c.1.1
  refine Vm.intro rfl (Nat.le_of_ble_eq_true rfl) (fun _ => B_X9_type_0 ?_)
  refine cc_within (fun q => ?_) (fun q => ?_) <;> simp only [kI_some, kL_some, kR_some, kV_none, ne_eq, not_true_eq_false, not_false_eq_true, true_implies, false_implies, implies_true, true_and, and_true, ab_z01, or_true, true_or, reduceCtorEq, Option.some.injEq, Int.reduceEq, Int.reduceNe, Int.reduceLT, Int.reduceLE, Int.reduceNeg, Int.reduceAdd, Int.reduceSub, Int.reduceMul, Nat.reduceEqDiff, Nat.reduceAdd, Nat.reduceMul, Int.reduceToNat, ↓reduceIte]
  rotate_left
  · exact k3 q
  refine gR_i o1 rfl (gI_i tx.1 rfl ⟨fun q2 => ?_, fun q2 => k5 q (by omega)⟩)
  refine gR_i o1 rfl (cv_i tx.1 ?_)
  refine Vm.intro rfl (Nat.le_of_ble_eq_true rfl) (fun _ => B_X5_append_0 ?_)
  refine gI_i tx.1 rfl (gR_i tx.1 rfl (nI_i tx.2 ⟨i3 (by decide) (by decide), ?_⟩))
  refine cc_within (fun q3 => ?_) (fun q3 => absurd (by omega) q3)
  simp only [kI_some, kL_some, kR_some, kV_none, ne_eq, not_true_eq_false, not_false_eq_true, true_implies, false_implies, implies_true, true_and, and_true, ab_z01, or_true, true_or, reduceCtorEq, Option.some.injEq, Int.reduceEq, Int.reduceNe, Int.reduceLT, Int.reduceLE, Int.reduceNeg, Int.reduceAdd, Int.reduceSub, Int.reduceMul, Nat.reduceEqDiff, Nat.reduceAdd, Nat.reduceMul, Int.reduceToNat, ↓reduceIte]
  refine gR_i tx.1 rfl (gI_i tx.1 rfl (sI_i tx.2 (by omega) (by omega) ?_))
  rw [Int.toNat_natCast]
  have t1 : hpO (hsI h (A 5) (200, va_up T L v)) (A 4) = some (4, xF (A 5) L tc ts te tk') := tx.1
  refine gI_i t1 rfl ⟨i3 (by omega) (by omega), p_i t1 (by show 1 < 6; decide) ?_⟩
  have x : Xt (SA A [4, 5]) h (hsO (hsI h (A 5) (200, va_up T L v)) (A 4) (4, xF (A 5) (L + 1) tc ts te tk')) := (xt_I (Or.inl ⟨5, by decide, rfl⟩)).tr (xt_O (Or.inl ⟨4, by decide, rfl⟩))
  have t2 : TX (hsO (hsI h (A 5) (200, va_up T L v)) (A 4) (4, xF (A 5) (L + 1) tc ts te tk')) (A 4) (A 5) (va_up T L v) (L + 1) tc ts te tk' := tx_set (by rw [hI_I, if_pos rfl])
  have o2 : hpO (hsO (hsI h (A 5) (200, va_up T L v)) (A 4) (4, xF (A 5) (L + 1) tc ts te tk')) (A 0) = some (8, oF A nw) := x.O (sa_not hA (by decide) (by decide) (by decide)) o1
  refine gR_i o2 rfl (gI_i t2.1 rfl ?_)
  refine kk q (by omega) _ (c.txt x ⟨⟨by omega, fun i hi => ?_⟩, tc, ts, te, tk', t2⟩) (x.mono (sa_qa (by decide)))
  by_cases e : i = L
  · rw [e, vu_same]; exact q
  · rw [vu_ne e]; exact hT.2 i (by omega)
set_option maxRecDepth 100000 in
set_option maxHeartbeats 4000000 in
theorem cp_erase {d : Nat} {h : AbH} {K : Option AbV → AbH → Prop} {A : Nat → Nat} {M : Nat → Prop} {w : Nat → Int} {u : Nat} {pr : Nat → Nat → Int} {kv : Nat → Option (Nat → Int)} {T : Nat → Int} {L : Nat} (c : CS A M h w u pr kv T L) (kk : ∀ h1, CS A M h1 w u pr kv T 0 → Xt (QA A) h h1 → K (some (vI (L : Int))) h1) : Vm (d + 2) m_X9_erase [vR (some (A 0))] h K := by
  obtain ⟨nw, o1, cw, hdg⟩ := c.2.1
  obtain ⟨hT, tc, ts, te, tk', tx⟩ := c.2.2.2.2.1
  refine Vm.intro rfl (Nat.le_of_ble_eq_true rfl) (fun _ => B_X9_erase_0 ?_)
  refine gR_i o1 rfl (gI_i tx.1 rfl (gR_i o1 rfl (cv_i tx.1 ?_)))
  refine Vm.intro rfl (Nat.le_of_ble_eq_true rfl) (fun _ => B_X5_clear_0 ?_)
  refine p_i tx.1 (by show 1 < 6; decide) ?_
  have x : Xt (SA A [4, 5]) h (hsO h (A 4) (4, xF (A 5) 0 tc ts te tk')) := xt_O (Or.inl ⟨4, by decide, rfl⟩)
  have t2 : TX (hsO h (A 4) (4, xF (A 5) 0 tc ts te tk')) (A 4) (A 5) T 0 tc ts te tk' := tx_set tx.2
  simp only [kI_some, kL_some, kR_some, kV_none, ne_eq, not_true_eq_false, not_false_eq_true, true_implies, false_implies, implies_true, true_and, and_true, ab_z01, or_true, true_or, reduceCtorEq, Option.some.injEq, Int.reduceEq, Int.reduceNe, Int.reduceLT, Int.reduceLE, Int.reduceNeg, Int.reduceAdd, Int.reduceSub, Int.reduceMul, Nat.reduceEqDiff, Nat.reduceAdd, Nat.reduceMul, Int.reduceToNat, ↓reduceIte]
  exact kk _ (c.txt x ⟨⟨by omega, fun i hi => absurd hi (by omega)⟩, tc, ts, te, tk', t2⟩) (x.mono (sa_qa (by decide)))
set_option maxRecDepth 100000 in
set_option maxHeartbeats 4000000 in
theorem cp_fault {d : Nat} {h : AbH} {K : Option AbV → AbH → Prop} {A : Nat → Nat} {M : Nat → Prop} {w : Nat → Int} {u : Nat} {pr : Nat → Nat → Int} {kv : Nat → Option (Nat → Int)} {T : Nat → Int} {L : Nat} (c : CS A M h w u pr kv T L) (kF : ∀ s' c', psT T L w = (none, s', c') → ∀ h1, CS A M h1 w u pr kv T L → Xt (QA A) h h1 → K (some (vI (s' : Int))) h1) (kk : ∀ W' s' c', psT T L w = (some W', s', c') → ∀ h1, CS A M h1 w u pr kv T L → Xt (QA A) h h1 → K (some (vI (-1))) h1) : Vm (d + 8) m_X9_fault [vR (some (A 0))] h K := by
  obtain ⟨nw, o1, cw, hdg⟩ := c.2.1
  obtain ⟨hT, tc, ts, te, tk', tx⟩ := c.2.2.2.2.1
  obtain ⟨_, _, _, _, ob⟩ := cw.ob
  have hP := c.1.2.2.1
  have hA := c.1.1
  have px : PQ A M (A 4) := Or.inl ⟨4, by decide, rfl⟩
  have pb : PQ A M (A 5) := Or.inl ⟨5, by decide, rfl⟩
  refine Vm.intro rfl (Nat.le_of_ble_eq_true rfl) (fun _ => B_X9_fault_0 ?_)
  refine gR_i o1 rfl (gR_i o1 rfl (cv_i ob (cm_copy cw (fun h1 a' m1 x1 => ?_))))
  simp only [kI_some, kL_some, kR_some, kV_none, ne_eq, not_true_eq_false, not_false_eq_true, true_implies, false_implies, implies_true, true_and, and_true, ab_z01, or_true, true_or, reduceCtorEq, Option.some.injEq, Int.reduceEq, Int.reduceNe, Int.reduceLT, Int.reduceLE, Int.reduceNeg, Int.reduceAdd, Int.reduceSub, Int.reduceMul, Nat.reduceEqDiff, Nat.reduceAdd, Nat.reduceMul, Int.reduceToNat, ↓reduceIte]
  have tx1 : TX h1 (A 4) (A 5) T L tc ts te tk' := tx.mv (x1.wk (P := fun _ => False)) id id
  have fin : ∀ h2 c2 s2 W2, RD (PQ A M) h h2 (A 4) (A 5) T L c2 s2 a' W2 → CS A M h2 w u pr kv T L ∧ Xt (QA A) h h2 := fun h2 c2 s2 W2 r => by
    have x : Xt (SA A [4, 5]) h h2 := r.2.2.mono (fun q z => ⟨4, by decide, z⟩)
    exact ⟨c.txt x ⟨hT, c2, s2, _, _, r.1.1⟩, x.mono (sa_qa (by decide))⟩
  refine cv_i tx1.1 (cc_read tx1 m1 (x1.wk) hT hP px pb c.1.2.2.2 (fun h2 s2 c2 e W2 r => ?_) (fun h2 W2 s2 c2 e r => ?_)) <;> simp only [kI_some, kL_some, kR_some, kV_none, ne_eq, not_true_eq_false, not_false_eq_true, true_implies, false_implies, implies_true, true_and, and_true, ab_z01, or_true, true_or, reduceCtorEq, Option.some.injEq, Int.reduceEq, Int.reduceNe, Int.reduceLT, Int.reduceLE, Int.reduceNeg, Int.reduceAdd, Int.reduceSub, Int.reduceMul, Nat.reduceEqDiff, Nat.reduceAdd, Nat.reduceMul, Int.reduceToNat, ↓reduceIte]
  · exact kF s2 c2 e h2 (fin _ _ _ _ r).1 (fin _ _ _ _ r).2
  · exact kk W2 s2 c2 e h2 (fin _ _ _ _ r).1 (fin _ _ _ _ r).2
set_option maxRecDepth 100000 in
set_option maxHeartbeats 4000000 in
theorem cp_tell {d : Nat} {h : AbH} {K : Option AbV → AbH → Prop} {A : Nat → Nat} {M : Nat → Prop} {w : Nat → Int} {u : Nat} {pr : Nat → Nat → Int} {kv : Nat → Option (Nat → Int)} {T : Nat → Int} {L : Nat} (c : CS A M h w u pr kv T L) (kF : ∀ s' c', psT T L w = (none, s', c') → ∀ h1, CS A M h1 w u pr kv T L → Xt (QA A) h h1 → K (some (vI (-4))) h1) (kk : ∀ W' s' c', psT T L w = (some W', s', c') → ∀ h1, CS A M h1 W' 0 pr kv T 0 → Xt (QA A) h h1 → K (some (vI (c' : Int))) h1) : Vm (d + 8) m_X9_tell [vR (some (A 0))] h K := by
  obtain ⟨nw, o1, cw, hdg⟩ := c.2.1
  obtain ⟨hT, tc, ts, te, tk', tx⟩ := c.2.2.2.2.1
  obtain ⟨_, _, _, _, ob⟩ := cw.ob
  have hP := c.1.2.2.1
  have hA := c.1.1
  have px : PQ A M (A 4) := Or.inl ⟨4, by decide, rfl⟩
  have pb : PQ A M (A 5) := Or.inl ⟨5, by decide, rfl⟩
  refine Vm.intro rfl (Nat.le_of_ble_eq_true rfl) (fun _ => B_X9_tell_0 ?_)
  refine gR_i o1 rfl (cv_i ob (cm_copy cw (fun h1 a' m1 x1 => ?_)))
  simp only [kI_some, kL_some, kR_some, kV_none, ne_eq, not_true_eq_false, not_false_eq_true, true_implies, false_implies, implies_true, true_and, and_true, ab_z01, or_true, true_or, reduceCtorEq, Option.some.injEq, Int.reduceEq, Int.reduceNe, Int.reduceLT, Int.reduceLE, Int.reduceNeg, Int.reduceAdd, Int.reduceSub, Int.reduceMul, Nat.reduceEqDiff, Nat.reduceAdd, Nat.reduceMul, Int.reduceToNat, ↓reduceIte]
  have o1' : hpO h1 (A 0) = some (8, oF A nw) := (x1.wk (P := fun _ => False)).O id o1
  have tx1 : TX h1 (A 4) (A 5) T L tc ts te tk' := tx.mv (x1.wk (P := fun _ => False)) id id
  have fin : ∀ h2 c2 s2 W2, RD (PQ A M) h h2 (A 4) (A 5) T L c2 s2 a' W2 → CS A M h2 w u pr kv T L ∧ Xt (SA A [4, 5]) h h2 := fun h2 c2 s2 W2 r => by
    have x : Xt (SA A [4, 5]) h h2 := r.2.2.mono (fun q z => ⟨4, by decide, z⟩)
    exact ⟨c.txt x ⟨hT, c2, s2, _, _, r.1.1⟩, x⟩
  refine gR_i o1' rfl (cv_i tx1.1 (cc_read tx1 m1 (x1.wk) hT hP px pb c.1.2.2.2 (fun h2 s2 c2 e W2 r => ?_) (fun h2 W2 s2 c2 e r => ?_))) <;> simp only [kI_some, kL_some, kR_some, kV_none, ne_eq, not_true_eq_false, not_false_eq_true, true_implies, false_implies, implies_true, true_and, and_true, ab_z01, or_true, true_or, reduceCtorEq, Option.some.injEq, Int.reduceEq, Int.reduceNe, Int.reduceLT, Int.reduceLE, Int.reduceNeg, Int.reduceAdd, Int.reduceSub, Int.reduceMul, Nat.reduceEqDiff, Nat.reduceAdd, Nat.reduceMul, Int.reduceToNat, ↓reduceIte]
  · obtain ⟨f1, f2⟩ := fin _ _ _ _ r
    exact kF s2 c2 e h2 f1 (f2.mono (sa_qa (by decide)))
  · obtain ⟨f1, f2⟩ := fin _ _ _ _ r
    obtain ⟨s0, ⟨nw2, o2, -, -⟩, ⟨g, ps, u8, gr, gx⟩, s3, s4, s5, s6, s7⟩ := f1
    have ca := r.2.1.cw hP
    have dW := (psT_gd hT cw.1 e).2 hdg
    refine p_i o2 (by show 0 < 7; decide) ?_
    have y1 : Xt (SA A [0, 1, 2, 4]) h2 (hsO h2 (A 0) (8, oF A a')) := xt_O (Or.inl ⟨0, by decide, rfl⟩)
    have o3 : hpO (hsO h2 (A 0) (8, oF A a')) (A 0) = some (8, oF A a') := by rw [hO_O, if_pos rfl]
    have p3 : PS (hsO h2 (A 0) (8, oF A a')) (A 1) (A 2) g u := ⟨by rw [hO_O, if_neg (fun z => absurd (hA 1 0 (by decide) (by decide) z) (by decide))]; exact ps.1, ps.2⟩
    refine gR_i o3 rfl (cv_i p3.1 (cm_pclear p3 (fun h4 ps4 x4 k7 => ?_)))
    simp only [kI_some, kL_some, kR_some, kV_none, ne_eq, not_true_eq_false, not_false_eq_true, true_implies, false_implies, implies_true, true_and, and_true, ab_z01, or_true, true_or, reduceCtorEq, Option.some.injEq, Int.reduceEq, Int.reduceNe, Int.reduceLT, Int.reduceLE, Int.reduceNeg, Int.reduceAdd, Int.reduceSub, Int.reduceMul, Nat.reduceEqDiff, Nat.reduceAdd, Nat.reduceMul, Int.reduceToNat, ↓reduceIte]
    have x4' : Xt (SA A [0, 1, 2, 4]) (hsO h2 (A 0) (8, oF A a')) h4 := x4.mono (fun q z => by
      rcases z with z | z
      · exact ⟨1, by decide, z⟩
      · exact ⟨2, by decide, z⟩)
    have n12 : ∀ i, i < 19 → i ≠ 1 → i ≠ 2 → ¬ P2 (A 1) (A 2) (A i) := fun i hi h1 h2 z => by
      rcases z with z | z
      · exact h1 (hA i 1 hi (by decide) z)
      · exact h2 (hA i 2 hi (by decide) z)
    have o4 : hpO h4 (A 0) = some (8, oF A a') := x4.O (n12 0 (by decide) (by decide) (by decide)) o3
    have t4 : TX h4 (A 4) (A 5) T L c2 s2 (tkE T L s2) (tkK T L s2) := by
      refine TX.mv (h := hsO h2 (A 0) (8, oF A a')) ⟨?_, r.1.1.2⟩ x4 (n12 4 (by decide) (by decide) (by decide)) (n12 5 (by decide) (by decide) (by decide))
      rw [hO_O, if_neg (fun z => absurd (hA 4 0 (by decide) (by decide) z) (by decide))]
      exact r.1.1.1
    refine gR_i o4 rfl (cv_i t4.1 ?_)
    refine Vm.intro rfl (Nat.le_of_ble_eq_true rfl) (fun _ => B_X5_clear_0 ?_)
    refine p_i t4.1 (by show 1 < 6; decide) ?_
    have x5 : Xt (SA A [0, 1, 2, 4]) h4 (hsO h4 (A 4) (4, xF (A 5) 0 c2 s2 (tkE T L s2) (tkK T L s2))) := xt_O (Or.inl ⟨4, by decide, rfl⟩)
    have t5 : TX (hsO h4 (A 4) (4, xF (A 5) 0 c2 s2 (tkE T L s2) (tkK T L s2))) (A 4) (A 5) T 0 c2 s2 (tkE T L s2) (tkK T L s2) := tx_set t4.2
    have o5 : hpO (hsO h4 (A 4) (4, xF (A 5) 0 c2 s2 (tkE T L s2) (tkK T L s2))) (A 0) = some (8, oF A a') := by
      rw [hO_O, if_neg (fun z => absurd (hA 0 4 (by decide) (by decide) z) (by decide))]
      exact o4
    have p5 : PS (hsO h4 (A 4) (4, xF (A 5) 0 c2 s2 (tkE T L s2) (tkK T L s2))) (A 1) (A 2) g 0 := ⟨by rw [hO_O, if_neg (fun z => absurd (hA 1 4 (by decide) (by decide) z) (by decide))]; exact ps4.1, ps4.2⟩
    simp only [kI_some, kL_some, kR_some, kV_none, ne_eq, not_true_eq_false, not_false_eq_true, true_implies, false_implies, implies_true, true_and, and_true, ab_z01, or_true, true_or, reduceCtorEq, Option.some.injEq, Int.reduceEq, Int.reduceNe, Int.reduceLT, Int.reduceLE, Int.reduceNeg, Int.reduceAdd, Int.reduceSub, Int.reduceMul, Nat.reduceEqDiff, Nat.reduceAdd, Nat.reduceMul, Int.reduceToNat, ↓reduceIte]
    refine gR_i o5 rfl (gI_i t5.1 rfl ?_)
    have x := (y1.tr x4').tr x5
    have hF : ∀ q, SA A [0, 1, 2, 4] q → PQ A M q := fun q z => Or.inl (sa_qa (by decide) q z)
    have nn : ∀ i, i < 19 → i ∉ [0, 1, 2, 4] → ¬ SA A [0, 1, 2, 4] (A i) := fun i hi hn => sa_not hA (by decide) hi hn
    refine kk W2 s2 c2 e _ ⟨s0.mv x, ⟨a', o5, ca.mv (x.mono hF), dW⟩, ⟨g, p5, by omega, fun i hi => absurd hi (by omega), fun i hi y hy => ?_⟩, s3.mv x hF (nn _ (by decide) (by decide)), ⟨⟨by omega, fun i hi => absurd hi (by omega)⟩, _, _, _, _, t5⟩, s5.mv x (nn _ (by decide) (by decide)) (nn _ (by decide) (by decide)) (nn _ (by decide) (by decide)), s6.mv x (nn _ (by decide) (by decide)) (nn _ (by decide) (by decide)) (nn _ (by decide) (by decide)) (nn _ (by decide) (by decide)) (nn _ (by decide) (by decide)), s7.mv x (nn _ (by decide) (by decide)) (nn _ (by decide) (by decide)) (nn _ (by decide) (by decide)) (nn _ (by decide) (by decide)) (nn _ (by decide) (by decide))⟩ ((f2.mono (sa_qa (by decide))).tr (x.mono (sa_qa (by decide))))
    obtain ⟨q1, fs, q2⟩ := gx i hi y hy
    exact ⟨q1, fs, x.O (fun z => q1 (hF _ z)) q2⟩
