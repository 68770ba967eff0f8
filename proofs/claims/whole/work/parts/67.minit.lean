/-! the model is made -/
def mLs : List Nat := [0, 2, 3, 7, 12, 13, 14, 16, 17, 18, 19, 20, 21]
def MM (m : Nat) (ad : Nat → Nat) (q : Nat) : Prop := q = m ∨ ∃ i, i ∈ mLs ∧ q = ad i
/-- the model's cells -/
def MC (h : AbH) (m : Nat) (ad : Nat → Nat) (sc : Nat → Int) (ar : Nat → Nat → Int) : Prop := hpO h m = some (9, mF ad sc) ∧ hpI h (ad 0) = some (4334, ar 0) ∧ hpZ h (ad 2) = some (2, ar 2) ∧ hpI h (ad 3) = some (200, ar 3) ∧ hpZ h (ad 7) = some (400, ar 7) ∧ hpI h (ad 12) = some (6, ar 12) ∧ hpI h (ad 13) = some (16, ar 13) ∧ hpI h (ad 14) = some (10, ar 14) ∧ hpI h (ad 16) = some (10, ar 16) ∧ hpI h (ad 17) = some (12, ar 17) ∧ hpI h (ad 18) = some (12, ar 18) ∧ hpI h (ad 19) = some (12, ar 19) ∧ hpI h (ad 20) = some (3, ar 20) ∧ hpI h (ad 21) = some (40, ar 21)
theorem mH_fold {h : AbH} {m : Nat} {ad : Nat → Nat} {sc : Nat → Int} {ar : Nat → Nat → Int} (c : MC h m ad sc ar) : mH h m ad sc ar = h := by
  obtain ⟨co, c0, c2, c3, c7, c12, c13, c14, c16, c17, c18, c19, c20, c21⟩ := c
  have e1 : (fun q => hpO (mH h m ad sc ar) q) = hpO h := by
    funext q
    rw [mH_O]
    by_cases z : q = m
    · rw [if_pos z, z, co]
    · rw [if_neg z]
  have e2 : (fun q => hpI (mH h m ad sc ar) q) = hpI h := by
    funext q
    rw [mH_I]
    by_cases z0 : q = ad 0
    · rw [if_pos z0, z0, c0]
    rw [if_neg z0]
    by_cases z3 : q = ad 3
    · rw [if_pos z3, z3, c3]
    rw [if_neg z3]
    by_cases z12 : q = ad 12
    · rw [if_pos z12, z12, c12]
    rw [if_neg z12]
    by_cases z13 : q = ad 13
    · rw [if_pos z13, z13, c13]
    rw [if_neg z13]
    by_cases z14 : q = ad 14
    · rw [if_pos z14, z14, c14]
    rw [if_neg z14]
    by_cases z16 : q = ad 16
    · rw [if_pos z16, z16, c16]
    rw [if_neg z16]
    by_cases z17 : q = ad 17
    · rw [if_pos z17, z17, c17]
    rw [if_neg z17]
    by_cases z18 : q = ad 18
    · rw [if_pos z18, z18, c18]
    rw [if_neg z18]
    by_cases z19 : q = ad 19
    · rw [if_pos z19, z19, c19]
    rw [if_neg z19]
    by_cases z20 : q = ad 20
    · rw [if_pos z20, z20, c20]
    rw [if_neg z20]
    by_cases z21 : q = ad 21
    · rw [if_pos z21, z21, c21]
    rw [if_neg z21]
  have e3 : (fun q => hpZ (mH h m ad sc ar) q) = hpZ h := by
    funext q
    rw [mH_Z]
    by_cases z2 : q = ad 2
    · rw [if_pos z2, z2, c2]
    rw [if_neg z2]
    by_cases z7 : q = ad 7
    · rw [if_pos z7, z7, c7]
    rw [if_neg z7]
  show ((fun q => hpO (mH h m ad sc ar) q), (fun q => hpI (mH h m ad sc ar) q), h.2.2.1, (fun q => hpZ (mH h m ad sc ar) q), h.2.2.2.2) = h
  rw [e1, e2, e3]
  rfl
theorem mH_MC {h : AbH} {m : Nat} {ad : Nat → Nat} {sc : Nat → Int} {ar : Nat → Nat → Int} (hA : mA ad) : MC (mH h m ad sc ar) m ad sc ar := by
  have nI : ∀ i ∈ ([0, 3, 12, 13, 14, 16, 17, 18, 19, 20, 21] : List Nat), ∀ j ∈ ([0, 3, 12, 13, 14, 16, 17, 18, 19, 20, 21] : List Nat), i ≠ j → ad i ≠ ad j := fun i hi j hj hn e => hn (hA.1 i hi j hj e)
  refine ⟨by rw [mH_O, if_pos rfl], ?_, ?_, ?_, ?_, ?_, ?_, ?_, ?_, ?_, ?_, ?_, ?_, ?_⟩
  · rw [mH_I, if_pos rfl]
  · rw [mH_Z, if_pos rfl]
  · rw [mH_I, if_neg (nI 3 (by decide) 0 (by decide) (by decide)), if_pos rfl]
  · rw [mH_Z, if_neg (fun z => hA.2 z.symm), if_pos rfl]
  · rw [mH_I, if_neg (nI 12 (by decide) 0 (by decide) (by decide)), if_neg (nI 12 (by decide) 3 (by decide) (by decide)), if_pos rfl]
  · rw [mH_I, if_neg (nI 13 (by decide) 0 (by decide) (by decide)), if_neg (nI 13 (by decide) 3 (by decide) (by decide)), if_neg (nI 13 (by decide) 12 (by decide) (by decide)), if_pos rfl]
  · rw [mH_I, if_neg (nI 14 (by decide) 0 (by decide) (by decide)), if_neg (nI 14 (by decide) 3 (by decide) (by decide)), if_neg (nI 14 (by decide) 12 (by decide) (by decide)), if_neg (nI 14 (by decide) 13 (by decide) (by decide)), if_pos rfl]
  · rw [mH_I, if_neg (nI 16 (by decide) 0 (by decide) (by decide)), if_neg (nI 16 (by decide) 3 (by decide) (by decide)), if_neg (nI 16 (by decide) 12 (by decide) (by decide)), if_neg (nI 16 (by decide) 13 (by decide) (by decide)), if_neg (nI 16 (by decide) 14 (by decide) (by decide)), if_pos rfl]
  · rw [mH_I, if_neg (nI 17 (by decide) 0 (by decide) (by decide)), if_neg (nI 17 (by decide) 3 (by decide) (by decide)), if_neg (nI 17 (by decide) 12 (by decide) (by decide)), if_neg (nI 17 (by decide) 13 (by decide) (by decide)), if_neg (nI 17 (by decide) 14 (by decide) (by decide)), if_neg (nI 17 (by decide) 16 (by decide) (by decide)), if_pos rfl]
  · rw [mH_I, if_neg (nI 18 (by decide) 0 (by decide) (by decide)), if_neg (nI 18 (by decide) 3 (by decide) (by decide)), if_neg (nI 18 (by decide) 12 (by decide) (by decide)), if_neg (nI 18 (by decide) 13 (by decide) (by decide)), if_neg (nI 18 (by decide) 14 (by decide) (by decide)), if_neg (nI 18 (by decide) 16 (by decide) (by decide)), if_neg (nI 18 (by decide) 17 (by decide) (by decide)), if_pos rfl]
  · rw [mH_I, if_neg (nI 19 (by decide) 0 (by decide) (by decide)), if_neg (nI 19 (by decide) 3 (by decide) (by decide)), if_neg (nI 19 (by decide) 12 (by decide) (by decide)), if_neg (nI 19 (by decide) 13 (by decide) (by decide)), if_neg (nI 19 (by decide) 14 (by decide) (by decide)), if_neg (nI 19 (by decide) 16 (by decide) (by decide)), if_neg (nI 19 (by decide) 17 (by decide) (by decide)), if_neg (nI 19 (by decide) 18 (by decide) (by decide)), if_pos rfl]
  · rw [mH_I, if_neg (nI 20 (by decide) 0 (by decide) (by decide)), if_neg (nI 20 (by decide) 3 (by decide) (by decide)), if_neg (nI 20 (by decide) 12 (by decide) (by decide)), if_neg (nI 20 (by decide) 13 (by decide) (by decide)), if_neg (nI 20 (by decide) 14 (by decide) (by decide)), if_neg (nI 20 (by decide) 16 (by decide) (by decide)), if_neg (nI 20 (by decide) 17 (by decide) (by decide)), if_neg (nI 20 (by decide) 18 (by decide) (by decide)), if_neg (nI 20 (by decide) 19 (by decide) (by decide)), if_pos rfl]
  · rw [mH_I, if_neg (nI 21 (by decide) 0 (by decide) (by decide)), if_neg (nI 21 (by decide) 3 (by decide) (by decide)), if_neg (nI 21 (by decide) 12 (by decide) (by decide)), if_neg (nI 21 (by decide) 13 (by decide) (by decide)), if_neg (nI 21 (by decide) 14 (by decide) (by decide)), if_neg (nI 21 (by decide) 16 (by decide) (by decide)), if_neg (nI 21 (by decide) 17 (by decide) (by decide)), if_neg (nI 21 (by decide) 18 (by decide) (by decide)), if_neg (nI 21 (by decide) 19 (by decide) (by decide)), if_neg (nI 21 (by decide) 20 (by decide) (by decide)), if_pos rfl]
theorem xt_mH {h : AbH} {m : Nat} {ad : Nat → Nat} {sc : Nat → Int} {ar : Nat → Nat → Int} : Xt (MM m ad) h (mH h m ad sc ar) := by
  refine ⟨fun q hq => ⟨fun c e => ?_, fun c e => ?_, fun c e => e, fun c e => ?_, fun c e => e⟩, rfl, rfl, rfl, fun q z => ⟨?_, ?_, z.2.2.1, ?_, z.2.2.2.2⟩⟩
  · rw [mH_O, if_neg (fun z => hq (Or.inl z))]; exact e
  · rw [mH_I, if_neg (fun z => hq (Or.inr ⟨0, by decide, z⟩)), if_neg (fun z => hq (Or.inr ⟨3, by decide, z⟩)), if_neg (fun z => hq (Or.inr ⟨12, by decide, z⟩)), if_neg (fun z => hq (Or.inr ⟨13, by decide, z⟩)), if_neg (fun z => hq (Or.inr ⟨14, by decide, z⟩)), if_neg (fun z => hq (Or.inr ⟨16, by decide, z⟩)), if_neg (fun z => hq (Or.inr ⟨17, by decide, z⟩)), if_neg (fun z => hq (Or.inr ⟨18, by decide, z⟩)), if_neg (fun z => hq (Or.inr ⟨19, by decide, z⟩)), if_neg (fun z => hq (Or.inr ⟨20, by decide, z⟩)), if_neg (fun z => hq (Or.inr ⟨21, by decide, z⟩))]; exact e
  · rw [mH_Z, if_neg (fun z => hq (Or.inr ⟨2, by decide, z⟩)), if_neg (fun z => hq (Or.inr ⟨7, by decide, z⟩))]; exact e
  · have y := z.1
    rw [mH_O] at y
    split at y
    · cases y
    · exact y
  · have y := z.2.1
    rw [mH_I] at y
    split at y
    · cases y
    split at y
    · cases y
    split at y
    · cases y
    split at y
    · cases y
    split at y
    · cases y
    split at y
    · cases y
    split at y
    · cases y
    split at y
    · cases y
    split at y
    · cases y
    split at y
    · cases y
    split at y
    · cases y
    exact y
  · have y := z.2.2.2.1
    rw [mH_Z] at y
    split at y
    · cases y
    split at y
    · cases y
    exact y
theorem MC.mv {F : Nat → Prop} {h h' : AbH} {m : Nat} {ad : Nat → Nat} {sc : Nat → Int} {ar : Nat → Nat → Int} (c : MC h m ad sc ar) (x : Xt F h h') (hn : ∀ q, MM m ad q → ¬ F q) : MC h' m ad sc ar := by
  obtain ⟨co, c0, c2, c3, c7, c12, c13, c14, c16, c17, c18, c19, c20, c21⟩ := c
  exact ⟨x.O (hn _ (Or.inl rfl)) co, x.I (hn _ (Or.inr ⟨0, by decide, rfl⟩)) c0, x.Z (hn _ (Or.inr ⟨2, by decide, rfl⟩)) c2, x.I (hn _ (Or.inr ⟨3, by decide, rfl⟩)) c3, x.Z (hn _ (Or.inr ⟨7, by decide, rfl⟩)) c7, x.I (hn _ (Or.inr ⟨12, by decide, rfl⟩)) c12, x.I (hn _ (Or.inr ⟨13, by decide, rfl⟩)) c13, x.I (hn _ (Or.inr ⟨14, by decide, rfl⟩)) c14, x.I (hn _ (Or.inr ⟨16, by decide, rfl⟩)) c16, x.I (hn _ (Or.inr ⟨17, by decide, rfl⟩)) c17, x.I (hn _ (Or.inr ⟨18, by decide, rfl⟩)) c18, x.I (hn _ (Or.inr ⟨19, by decide, rfl⟩)) c19, x.I (hn _ (Or.inr ⟨20, by decide, rfl⟩)) c20, x.I (hn _ (Or.inr ⟨21, by decide, rfl⟩)) c21⟩
theorem hsI_up {h : AbH} {q : Nat} {c c' : Nat × (Nat → Int)} : hsI (hsI h q c) q c' = hsI h q c' := by
  unfold hsI
  rw [vu_up]
def posM : Nat → Nat
  | 0 => 0
  | 2 => 1
  | 3 => 2
  | 7 => 3
  | 12 => 4
  | 13 => 5
  | 14 => 6
  | 16 => 7
  | 17 => 8
  | 18 => 9
  | 19 => 10
  | 20 => 11
  | 21 => 12
  | _ => 0
set_option maxRecDepth 100000 in
set_option maxHeartbeats 4000000 in
theorem ci_model {d : Nat} {hp : AbH} {K : Option AbV → AbH → Prop} {m : Nat} (na : ab_new hp m) (kk : ∀ h' ad ar, mA ad → MC h' m ad (fun _ => 0) ar → (ar 0 = fun _ => 0) → (ar 2 = fun _ => 0) → (ar 3 = fun _ => 0) → wds ar → (∀ q, MM m ad q → ab_new hp q) → Xt NF hp h' → K none h') : Vm (d + 1) m_X10_init [vR (some m)] (hsO hp m (9, [vR none, vI 0, vR none, vR none, vI 0, vI 0, vI 0, vR none, vI 0, vI 0, vI 0, vI 0, vR none, vR none, vR none, vI 0, vR none, vR none, vR none, vR none, vR none, vR none, vI 0])) K := by
  have y : ∀ {h1 : AbH} {c : Nat × List AbV}, Xt (A1 m) h1 (hsO h1 m c) := xt_O (Or.inl rfl)
  refine Vm.intro rfl (Nat.le_of_ble_eq_true rfl) (fun _ => B_X10_init_0 ?_)
  obtain ⟨H0, eH0⟩ : ∃ H0, H0 = hsO hp m (9, [vR none, vI 0, vR none, vR none, vI 0, vI 0, vI 0, vR none, vI 0, vI 0, vI 0, vI 0, vR none, vR none, vR none, vI 0, vR none, vR none, vR none, vR none, vR none, vR none, vI 0]) := ⟨_, rfl⟩
  have o0 : hpO H0 m = some (9, [vR none, vI 0, vR none, vR none, vI 0, vI 0, vI 0, vR none, vI 0, vI 0, vI 0, vI 0, vR none, vR none, vR none, vI 0, vR none, vR none, vR none, vR none, vR none, vR none, vI 0]) := by rw [eH0]; exact sO_s
  have x0 : Xt NF hp H0 := by rw [eH0]; exact Xt.rf.nO na
  have an0 : AN 0 (fun _ => 0) H0 := ⟨fun i j hi => absurd hi (Nat.not_lt_zero i), fun i hi => absurd hi (Nat.not_lt_zero i)⟩
  rw [← eH0]
  clear eH0
  intro b0 n0 hh0 e0
  subst e0
  have an1 := an0.add n0 (exI sI_s) (Xt.rf.nI (P := NF) (c := (4334, fun _ => 0)) n0)
  refine p_i (show hpO (hsI H0 b0 (4334, fun _ => 0)) m = some (9, [vR none, vI 0, vR none, vR none, vI 0, vI 0, vI 0, vR none, vI 0, vI 0, vI 0, vI 0, vR none, vR none, vR none, vI 0, vR none, vR none, vR none, vR none, vR none, vR none, vI 0]) from o0) (by show 0 < 23; decide) ?_
  obtain ⟨H1, eH1⟩ : ∃ H, H = hsO (hsI H0 b0 (4334, fun _ => 0)) m (9, [vR none, vI 0, vR none, vR none, vI 0, vI 0, vI 0, vR none, vI 0, vI 0, vI 0, vI 0, vR none, vR none, vR none, vI 0, vR none, vR none, vR none, vR none, vR none, vR none, vI 0].set 0 (vR (some b0))) := ⟨_, rfl⟩
  have o1 : hpO H1 m = some (9, [vR (some b0), vI 0, vR none, vR none, vI 0, vI 0, vI 0, vR none, vI 0, vI 0, vI 0, vI 0, vR none, vR none, vR none, vI 0, vR none, vR none, vR none, vR none, vR none, vR none, vI 0]) := by rw [eH1]; exact sO_s
  have r0 : hpI H1 b0 = some (4334, fun _ => 0) := by rw [eH1]; exact sI_s
  have z1 : Xt (A1 m) H0 H1 := by rw [eH1]; exact (Xt.rf.nI n0).tr y
  have x1 : Xt NF hp H1 := by rw [eH1]; exact (x0.nI (x0.new n0)).nO na
  have an1 := an1.mv (F := A1 m) (show Xt (A1 m) _ H1 by rw [eH1]; exact y)
  have ne0 : ¬ A1 m b0 := fun z => exO o0 (by rw [← show _ = m from z]; exact n0)
  rw [← eH1]
  clear eH1
  intro b2 n2 hh2 e2
  subst e2
  have an2 := an1.add n2 (exZ sZ_s) (Xt.rf.nZ (P := NF) (c := (2, fun _ => 0)) n2)
  refine p_i (show hpO (hsZ H1 b2 (2, fun _ => 0)) m = some (9, [vR (some b0), vI 0, vR none, vR none, vI 0, vI 0, vI 0, vR none, vI 0, vI 0, vI 0, vI 0, vR none, vR none, vR none, vI 0, vR none, vR none, vR none, vR none, vR none, vR none, vI 0]) from o1) (by show 2 < 23; decide) ?_
  obtain ⟨H2, eH2⟩ : ∃ H, H = hsO (hsZ H1 b2 (2, fun _ => 0)) m (9, [vR (some b0), vI 0, vR none, vR none, vI 0, vI 0, vI 0, vR none, vI 0, vI 0, vI 0, vI 0, vR none, vR none, vR none, vI 0, vR none, vR none, vR none, vR none, vR none, vR none, vI 0].set 2 (vR (some b2))) := ⟨_, rfl⟩
  have o2 : hpO H2 m = some (9, [vR (some b0), vI 0, vR (some b2), vR none, vI 0, vI 0, vI 0, vR none, vI 0, vI 0, vI 0, vI 0, vR none, vR none, vR none, vI 0, vR none, vR none, vR none, vR none, vR none, vR none, vI 0]) := by rw [eH2]; exact sO_s
  have r2 : hpZ H2 b2 = some (2, fun _ => 0) := by rw [eH2]; exact sZ_s
  have z2 : Xt (A1 m) H1 H2 := by rw [eH2]; exact (Xt.rf.nZ n2).tr y
  have x2 : Xt NF hp H2 := by rw [eH2]; exact (x1.nZ (x1.new n2)).nO na
  have an2 := an2.mv (F := A1 m) (show Xt (A1 m) _ H2 by rw [eH2]; exact y)
  have ne2 : ¬ A1 m b2 := fun z => exO o1 (by rw [← show _ = m from z]; exact n2)
  rw [← eH2]
  clear eH2
  intro b3 n3 hh3 e3
  subst e3
  have an3 := an2.add n3 (exI sI_s) (Xt.rf.nI (P := NF) (c := (200, fun _ => 0)) n3)
  refine p_i (show hpO (hsI H2 b3 (200, fun _ => 0)) m = some (9, [vR (some b0), vI 0, vR (some b2), vR none, vI 0, vI 0, vI 0, vR none, vI 0, vI 0, vI 0, vI 0, vR none, vR none, vR none, vI 0, vR none, vR none, vR none, vR none, vR none, vR none, vI 0]) from o2) (by show 3 < 23; decide) ?_
  obtain ⟨H3, eH3⟩ : ∃ H, H = hsO (hsI H2 b3 (200, fun _ => 0)) m (9, [vR (some b0), vI 0, vR (some b2), vR none, vI 0, vI 0, vI 0, vR none, vI 0, vI 0, vI 0, vI 0, vR none, vR none, vR none, vI 0, vR none, vR none, vR none, vR none, vR none, vR none, vI 0].set 3 (vR (some b3))) := ⟨_, rfl⟩
  have o3 : hpO H3 m = some (9, [vR (some b0), vI 0, vR (some b2), vR (some b3), vI 0, vI 0, vI 0, vR none, vI 0, vI 0, vI 0, vI 0, vR none, vR none, vR none, vI 0, vR none, vR none, vR none, vR none, vR none, vR none, vI 0]) := by rw [eH3]; exact sO_s
  have r3 : hpI H3 b3 = some (200, fun _ => 0) := by rw [eH3]; exact sI_s
  have z3 : Xt (A1 m) H2 H3 := by rw [eH3]; exact (Xt.rf.nI n3).tr y
  have x3 : Xt NF hp H3 := by rw [eH3]; exact (x2.nI (x2.new n3)).nO na
  have an3 := an3.mv (F := A1 m) (show Xt (A1 m) _ H3 by rw [eH3]; exact y)
  have ne3 : ¬ A1 m b3 := fun z => exO o2 (by rw [← show _ = m from z]; exact n3)
  rw [← eH3]
  clear eH3
  intro b7 n7 hh7 e7
  subst e7
  have an4 := an3.add n7 (exZ sZ_s) (Xt.rf.nZ (P := NF) (c := (400, fun _ => 0)) n7)
  refine p_i (show hpO (hsZ H3 b7 (400, fun _ => 0)) m = some (9, [vR (some b0), vI 0, vR (some b2), vR (some b3), vI 0, vI 0, vI 0, vR none, vI 0, vI 0, vI 0, vI 0, vR none, vR none, vR none, vI 0, vR none, vR none, vR none, vR none, vR none, vR none, vI 0]) from o3) (by show 7 < 23; decide) ?_
  obtain ⟨H4, eH4⟩ : ∃ H, H = hsO (hsZ H3 b7 (400, fun _ => 0)) m (9, [vR (some b0), vI 0, vR (some b2), vR (some b3), vI 0, vI 0, vI 0, vR none, vI 0, vI 0, vI 0, vI 0, vR none, vR none, vR none, vI 0, vR none, vR none, vR none, vR none, vR none, vR none, vI 0].set 7 (vR (some b7))) := ⟨_, rfl⟩
  have o4 : hpO H4 m = some (9, [vR (some b0), vI 0, vR (some b2), vR (some b3), vI 0, vI 0, vI 0, vR (some b7), vI 0, vI 0, vI 0, vI 0, vR none, vR none, vR none, vI 0, vR none, vR none, vR none, vR none, vR none, vR none, vI 0]) := by rw [eH4]; exact sO_s
  have r7 : hpZ H4 b7 = some (400, fun _ => 0) := by rw [eH4]; exact sZ_s
  have z4 : Xt (A1 m) H3 H4 := by rw [eH4]; exact (Xt.rf.nZ n7).tr y
  have x4 : Xt NF hp H4 := by rw [eH4]; exact (x3.nZ (x3.new n7)).nO na
  have an4 := an4.mv (F := A1 m) (show Xt (A1 m) _ H4 by rw [eH4]; exact y)
  have ne7 : ¬ A1 m b7 := fun z => exO o3 (by rw [← show _ = m from z]; exact n7)
  rw [← eH4]
  clear eH4
  intro b12 n12 hh12 e12
  subst e12
  have an5 := an4.add n12 (exI sI_s) (Xt.rf.nI (P := NF) (c := (6, fun _ => 0)) n12)
  refine p_i (show hpO (hsI H4 b12 (6, fun _ => 0)) m = some (9, [vR (some b0), vI 0, vR (some b2), vR (some b3), vI 0, vI 0, vI 0, vR (some b7), vI 0, vI 0, vI 0, vI 0, vR none, vR none, vR none, vI 0, vR none, vR none, vR none, vR none, vR none, vR none, vI 0]) from o4) (by show 12 < 23; decide) ?_
  obtain ⟨H5, eH5⟩ : ∃ H, H = hsO (hsI H4 b12 (6, fun _ => 0)) m (9, [vR (some b0), vI 0, vR (some b2), vR (some b3), vI 0, vI 0, vI 0, vR (some b7), vI 0, vI 0, vI 0, vI 0, vR none, vR none, vR none, vI 0, vR none, vR none, vR none, vR none, vR none, vR none, vI 0].set 12 (vR (some b12))) := ⟨_, rfl⟩
  have o5 : hpO H5 m = some (9, [vR (some b0), vI 0, vR (some b2), vR (some b3), vI 0, vI 0, vI 0, vR (some b7), vI 0, vI 0, vI 0, vI 0, vR (some b12), vR none, vR none, vI 0, vR none, vR none, vR none, vR none, vR none, vR none, vI 0]) := by rw [eH5]; exact sO_s
  have r12 : hpI H5 b12 = some (6, fun _ => 0) := by rw [eH5]; exact sI_s
  have z5 : Xt (A1 m) H4 H5 := by rw [eH5]; exact (Xt.rf.nI n12).tr y
  have x5 : Xt NF hp H5 := by rw [eH5]; exact (x4.nI (x4.new n12)).nO na
  have an5 := an5.mv (F := A1 m) (show Xt (A1 m) _ H5 by rw [eH5]; exact y)
  have ne12 : ¬ A1 m b12 := fun z => exO o4 (by rw [← show _ = m from z]; exact n12)
  rw [← eH5]
  clear eH5
  intro b13 n13 hh13 e13
  subst e13
  have an6 := an5.add n13 (exI sI_s) (Xt.rf.nI (P := NF) (c := (16, fun _ => 0)) n13)
  refine sI_i sI_s (by decide) (by decide) ?_
  rw [hsI_up]
  refine sI_i sI_s (by decide) (by decide) ?_
  rw [hsI_up]
  refine sI_i sI_s (by decide) (by decide) ?_
  rw [hsI_up]
  refine sI_i sI_s (by decide) (by decide) ?_
  rw [hsI_up]
  refine sI_i sI_s (by decide) (by decide) ?_
  rw [hsI_up]
  refine sI_i sI_s (by decide) (by decide) ?_
  rw [hsI_up]
  refine sI_i sI_s (by decide) (by decide) ?_
  rw [hsI_up]
  refine sI_i sI_s (by decide) (by decide) ?_
  rw [hsI_up]
  refine sI_i sI_s (by decide) (by decide) ?_
  rw [hsI_up]
  refine sI_i sI_s (by decide) (by decide) ?_
  rw [hsI_up]
  refine sI_i sI_s (by decide) (by decide) ?_
  rw [hsI_up]
  refine sI_i sI_s (by decide) (by decide) ?_
  rw [hsI_up]
  refine sI_i sI_s (by decide) (by decide) ?_
  rw [hsI_up]
  refine sI_i sI_s (by decide) (by decide) ?_
  rw [hsI_up]
  refine sI_i sI_s (by decide) (by decide) ?_
  rw [hsI_up]
  refine sI_i sI_s (by decide) (by decide) ?_
  rw [hsI_up]
  obtain ⟨gw, egw⟩ : ∃ gw : Nat → Int, gw = va_up (va_up (va_up (va_up (va_up (va_up (va_up (va_up (va_up (va_up (va_up (va_up (va_up (va_up (va_up (va_up (fun _ => 0) (0 : Int).toNat 97) (1 : Int).toNat 108) (2 : Int).toNat 108) (3 : Int).toNat 0) (4 : Int).toNat 108) (5 : Int).toNat 97) (6 : Int).toNat 119) (7 : Int).toNat 0) (8 : Int).toNat 109) (9 : Int).toNat 101) (10 : Int).toNat 101) (11 : Int).toNat 116) (12 : Int).toNat 108) (13 : Int).toNat 111) (14 : Int).toNat 97) (15 : Int).toNat 110 := ⟨_, rfl⟩
  rw [← egw]
  have an6 := an6.mv (xt_I (P := A1 b13) (c := (16, gw)) (Or.inl rfl))
  rw [hsI_up] at an6
  refine p_i (show hpO (hsI H5 b13 (16, gw)) m = some (9, [vR (some b0), vI 0, vR (some b2), vR (some b3), vI 0, vI 0, vI 0, vR (some b7), vI 0, vI 0, vI 0, vI 0, vR (some b12), vR none, vR none, vI 0, vR none, vR none, vR none, vR none, vR none, vR none, vI 0]) from o5) (by show 13 < 23; decide) ?_
  obtain ⟨H6, eH6⟩ : ∃ H, H = hsO (hsI H5 b13 (16, gw)) m (9, [vR (some b0), vI 0, vR (some b2), vR (some b3), vI 0, vI 0, vI 0, vR (some b7), vI 0, vI 0, vI 0, vI 0, vR (some b12), vR none, vR none, vI 0, vR none, vR none, vR none, vR none, vR none, vR none, vI 0].set 13 (vR (some b13))) := ⟨_, rfl⟩
  have o6 : hpO H6 m = some (9, [vR (some b0), vI 0, vR (some b2), vR (some b3), vI 0, vI 0, vI 0, vR (some b7), vI 0, vI 0, vI 0, vI 0, vR (some b12), vR (some b13), vR none, vI 0, vR none, vR none, vR none, vR none, vR none, vR none, vI 0]) := by rw [eH6]; exact sO_s
  have r13 : hpI H6 b13 = some (16, gw) := by rw [eH6]; exact sI_s
  have z6 : Xt (A1 m) H5 H6 := by rw [eH6]; exact (Xt.rf.nI n13).tr y
  have x6 : Xt NF hp H6 := by rw [eH6]; exact (x5.nI (x5.new n13)).nO na
  have an6 := an6.mv (F := A1 m) (show Xt (A1 m) _ H6 by rw [eH6]; exact y)
  have ne13 : ¬ A1 m b13 := fun z => exO o5 (by rw [← show _ = m from z]; exact n13)
  rw [← eH6]
  clear eH6
  intro b14 n14 hh14 e14
  subst e14
  have an7 := an6.add n14 (exI sI_s) (Xt.rf.nI (P := NF) (c := (10, fun _ => 0)) n14)
  refine p_i (show hpO (hsI H6 b14 (10, fun _ => 0)) m = some (9, [vR (some b0), vI 0, vR (some b2), vR (some b3), vI 0, vI 0, vI 0, vR (some b7), vI 0, vI 0, vI 0, vI 0, vR (some b12), vR (some b13), vR none, vI 0, vR none, vR none, vR none, vR none, vR none, vR none, vI 0]) from o6) (by show 14 < 23; decide) ?_
  obtain ⟨H7, eH7⟩ : ∃ H, H = hsO (hsI H6 b14 (10, fun _ => 0)) m (9, [vR (some b0), vI 0, vR (some b2), vR (some b3), vI 0, vI 0, vI 0, vR (some b7), vI 0, vI 0, vI 0, vI 0, vR (some b12), vR (some b13), vR none, vI 0, vR none, vR none, vR none, vR none, vR none, vR none, vI 0].set 14 (vR (some b14))) := ⟨_, rfl⟩
  have o7 : hpO H7 m = some (9, [vR (some b0), vI 0, vR (some b2), vR (some b3), vI 0, vI 0, vI 0, vR (some b7), vI 0, vI 0, vI 0, vI 0, vR (some b12), vR (some b13), vR (some b14), vI 0, vR none, vR none, vR none, vR none, vR none, vR none, vI 0]) := by rw [eH7]; exact sO_s
  have r14 : hpI H7 b14 = some (10, fun _ => 0) := by rw [eH7]; exact sI_s
  have z7 : Xt (A1 m) H6 H7 := by rw [eH7]; exact (Xt.rf.nI n14).tr y
  have x7 : Xt NF hp H7 := by rw [eH7]; exact (x6.nI (x6.new n14)).nO na
  have an7 := an7.mv (F := A1 m) (show Xt (A1 m) _ H7 by rw [eH7]; exact y)
  have ne14 : ¬ A1 m b14 := fun z => exO o6 (by rw [← show _ = m from z]; exact n14)
  rw [← eH7]
  clear eH7
  intro b16 n16 hh16 e16
  subst e16
  have an8 := an7.add n16 (exI sI_s) (Xt.rf.nI (P := NF) (c := (10, fun _ => 0)) n16)
  refine p_i (show hpO (hsI H7 b16 (10, fun _ => 0)) m = some (9, [vR (some b0), vI 0, vR (some b2), vR (some b3), vI 0, vI 0, vI 0, vR (some b7), vI 0, vI 0, vI 0, vI 0, vR (some b12), vR (some b13), vR (some b14), vI 0, vR none, vR none, vR none, vR none, vR none, vR none, vI 0]) from o7) (by show 16 < 23; decide) ?_
  obtain ⟨H8, eH8⟩ : ∃ H, H = hsO (hsI H7 b16 (10, fun _ => 0)) m (9, [vR (some b0), vI 0, vR (some b2), vR (some b3), vI 0, vI 0, vI 0, vR (some b7), vI 0, vI 0, vI 0, vI 0, vR (some b12), vR (some b13), vR (some b14), vI 0, vR none, vR none, vR none, vR none, vR none, vR none, vI 0].set 16 (vR (some b16))) := ⟨_, rfl⟩
  have o8 : hpO H8 m = some (9, [vR (some b0), vI 0, vR (some b2), vR (some b3), vI 0, vI 0, vI 0, vR (some b7), vI 0, vI 0, vI 0, vI 0, vR (some b12), vR (some b13), vR (some b14), vI 0, vR (some b16), vR none, vR none, vR none, vR none, vR none, vI 0]) := by rw [eH8]; exact sO_s
  have r16 : hpI H8 b16 = some (10, fun _ => 0) := by rw [eH8]; exact sI_s
  have z8 : Xt (A1 m) H7 H8 := by rw [eH8]; exact (Xt.rf.nI n16).tr y
  have x8 : Xt NF hp H8 := by rw [eH8]; exact (x7.nI (x7.new n16)).nO na
  have an8 := an8.mv (F := A1 m) (show Xt (A1 m) _ H8 by rw [eH8]; exact y)
  have ne16 : ¬ A1 m b16 := fun z => exO o7 (by rw [← show _ = m from z]; exact n16)
  rw [← eH8]
  clear eH8
  intro b17 n17 hh17 e17
  subst e17
  have an9 := an8.add n17 (exI sI_s) (Xt.rf.nI (P := NF) (c := (12, fun _ => 0)) n17)
  refine p_i (show hpO (hsI H8 b17 (12, fun _ => 0)) m = some (9, [vR (some b0), vI 0, vR (some b2), vR (some b3), vI 0, vI 0, vI 0, vR (some b7), vI 0, vI 0, vI 0, vI 0, vR (some b12), vR (some b13), vR (some b14), vI 0, vR (some b16), vR none, vR none, vR none, vR none, vR none, vI 0]) from o8) (by show 17 < 23; decide) ?_
  obtain ⟨H9, eH9⟩ : ∃ H, H = hsO (hsI H8 b17 (12, fun _ => 0)) m (9, [vR (some b0), vI 0, vR (some b2), vR (some b3), vI 0, vI 0, vI 0, vR (some b7), vI 0, vI 0, vI 0, vI 0, vR (some b12), vR (some b13), vR (some b14), vI 0, vR (some b16), vR none, vR none, vR none, vR none, vR none, vI 0].set 17 (vR (some b17))) := ⟨_, rfl⟩
  have o9 : hpO H9 m = some (9, [vR (some b0), vI 0, vR (some b2), vR (some b3), vI 0, vI 0, vI 0, vR (some b7), vI 0, vI 0, vI 0, vI 0, vR (some b12), vR (some b13), vR (some b14), vI 0, vR (some b16), vR (some b17), vR none, vR none, vR none, vR none, vI 0]) := by rw [eH9]; exact sO_s
  have r17 : hpI H9 b17 = some (12, fun _ => 0) := by rw [eH9]; exact sI_s
  have z9 : Xt (A1 m) H8 H9 := by rw [eH9]; exact (Xt.rf.nI n17).tr y
  have x9 : Xt NF hp H9 := by rw [eH9]; exact (x8.nI (x8.new n17)).nO na
  have an9 := an9.mv (F := A1 m) (show Xt (A1 m) _ H9 by rw [eH9]; exact y)
  have ne17 : ¬ A1 m b17 := fun z => exO o8 (by rw [← show _ = m from z]; exact n17)
  rw [← eH9]
  clear eH9
  intro b18 n18 hh18 e18
  subst e18
  have an10 := an9.add n18 (exI sI_s) (Xt.rf.nI (P := NF) (c := (12, fun _ => 0)) n18)
  refine p_i (show hpO (hsI H9 b18 (12, fun _ => 0)) m = some (9, [vR (some b0), vI 0, vR (some b2), vR (some b3), vI 0, vI 0, vI 0, vR (some b7), vI 0, vI 0, vI 0, vI 0, vR (some b12), vR (some b13), vR (some b14), vI 0, vR (some b16), vR (some b17), vR none, vR none, vR none, vR none, vI 0]) from o9) (by show 18 < 23; decide) ?_
  obtain ⟨H10, eH10⟩ : ∃ H, H = hsO (hsI H9 b18 (12, fun _ => 0)) m (9, [vR (some b0), vI 0, vR (some b2), vR (some b3), vI 0, vI 0, vI 0, vR (some b7), vI 0, vI 0, vI 0, vI 0, vR (some b12), vR (some b13), vR (some b14), vI 0, vR (some b16), vR (some b17), vR none, vR none, vR none, vR none, vI 0].set 18 (vR (some b18))) := ⟨_, rfl⟩
  have o10 : hpO H10 m = some (9, [vR (some b0), vI 0, vR (some b2), vR (some b3), vI 0, vI 0, vI 0, vR (some b7), vI 0, vI 0, vI 0, vI 0, vR (some b12), vR (some b13), vR (some b14), vI 0, vR (some b16), vR (some b17), vR (some b18), vR none, vR none, vR none, vI 0]) := by rw [eH10]; exact sO_s
  have r18 : hpI H10 b18 = some (12, fun _ => 0) := by rw [eH10]; exact sI_s
  have z10 : Xt (A1 m) H9 H10 := by rw [eH10]; exact (Xt.rf.nI n18).tr y
  have x10 : Xt NF hp H10 := by rw [eH10]; exact (x9.nI (x9.new n18)).nO na
  have an10 := an10.mv (F := A1 m) (show Xt (A1 m) _ H10 by rw [eH10]; exact y)
  have ne18 : ¬ A1 m b18 := fun z => exO o9 (by rw [← show _ = m from z]; exact n18)
  rw [← eH10]
  clear eH10
  intro b19 n19 hh19 e19
  subst e19
  have an11 := an10.add n19 (exI sI_s) (Xt.rf.nI (P := NF) (c := (12, fun _ => 0)) n19)
  refine p_i (show hpO (hsI H10 b19 (12, fun _ => 0)) m = some (9, [vR (some b0), vI 0, vR (some b2), vR (some b3), vI 0, vI 0, vI 0, vR (some b7), vI 0, vI 0, vI 0, vI 0, vR (some b12), vR (some b13), vR (some b14), vI 0, vR (some b16), vR (some b17), vR (some b18), vR none, vR none, vR none, vI 0]) from o10) (by show 19 < 23; decide) ?_
  obtain ⟨H11, eH11⟩ : ∃ H, H = hsO (hsI H10 b19 (12, fun _ => 0)) m (9, [vR (some b0), vI 0, vR (some b2), vR (some b3), vI 0, vI 0, vI 0, vR (some b7), vI 0, vI 0, vI 0, vI 0, vR (some b12), vR (some b13), vR (some b14), vI 0, vR (some b16), vR (some b17), vR (some b18), vR none, vR none, vR none, vI 0].set 19 (vR (some b19))) := ⟨_, rfl⟩
  have o11 : hpO H11 m = some (9, [vR (some b0), vI 0, vR (some b2), vR (some b3), vI 0, vI 0, vI 0, vR (some b7), vI 0, vI 0, vI 0, vI 0, vR (some b12), vR (some b13), vR (some b14), vI 0, vR (some b16), vR (some b17), vR (some b18), vR (some b19), vR none, vR none, vI 0]) := by rw [eH11]; exact sO_s
  have r19 : hpI H11 b19 = some (12, fun _ => 0) := by rw [eH11]; exact sI_s
  have z11 : Xt (A1 m) H10 H11 := by rw [eH11]; exact (Xt.rf.nI n19).tr y
  have x11 : Xt NF hp H11 := by rw [eH11]; exact (x10.nI (x10.new n19)).nO na
  have an11 := an11.mv (F := A1 m) (show Xt (A1 m) _ H11 by rw [eH11]; exact y)
  have ne19 : ¬ A1 m b19 := fun z => exO o10 (by rw [← show _ = m from z]; exact n19)
  rw [← eH11]
  clear eH11
  intro b20 n20 hh20 e20
  subst e20
  have an12 := an11.add n20 (exI sI_s) (Xt.rf.nI (P := NF) (c := (3, fun _ => 0)) n20)
  refine p_i (show hpO (hsI H11 b20 (3, fun _ => 0)) m = some (9, [vR (some b0), vI 0, vR (some b2), vR (some b3), vI 0, vI 0, vI 0, vR (some b7), vI 0, vI 0, vI 0, vI 0, vR (some b12), vR (some b13), vR (some b14), vI 0, vR (some b16), vR (some b17), vR (some b18), vR (some b19), vR none, vR none, vI 0]) from o11) (by show 20 < 23; decide) ?_
  obtain ⟨H12, eH12⟩ : ∃ H, H = hsO (hsI H11 b20 (3, fun _ => 0)) m (9, [vR (some b0), vI 0, vR (some b2), vR (some b3), vI 0, vI 0, vI 0, vR (some b7), vI 0, vI 0, vI 0, vI 0, vR (some b12), vR (some b13), vR (some b14), vI 0, vR (some b16), vR (some b17), vR (some b18), vR (some b19), vR none, vR none, vI 0].set 20 (vR (some b20))) := ⟨_, rfl⟩
  have o12 : hpO H12 m = some (9, [vR (some b0), vI 0, vR (some b2), vR (some b3), vI 0, vI 0, vI 0, vR (some b7), vI 0, vI 0, vI 0, vI 0, vR (some b12), vR (some b13), vR (some b14), vI 0, vR (some b16), vR (some b17), vR (some b18), vR (some b19), vR (some b20), vR none, vI 0]) := by rw [eH12]; exact sO_s
  have r20 : hpI H12 b20 = some (3, fun _ => 0) := by rw [eH12]; exact sI_s
  have z12 : Xt (A1 m) H11 H12 := by rw [eH12]; exact (Xt.rf.nI n20).tr y
  have x12 : Xt NF hp H12 := by rw [eH12]; exact (x11.nI (x11.new n20)).nO na
  have an12 := an12.mv (F := A1 m) (show Xt (A1 m) _ H12 by rw [eH12]; exact y)
  have ne20 : ¬ A1 m b20 := fun z => exO o11 (by rw [← show _ = m from z]; exact n20)
  rw [← eH12]
  clear eH12
  intro b21 n21 hh21 e21
  subst e21
  have an13 := an12.add n21 (exI sI_s) (Xt.rf.nI (P := NF) (c := (40, fun _ => 0)) n21)
  refine p_i (show hpO (hsI H12 b21 (40, fun _ => 0)) m = some (9, [vR (some b0), vI 0, vR (some b2), vR (some b3), vI 0, vI 0, vI 0, vR (some b7), vI 0, vI 0, vI 0, vI 0, vR (some b12), vR (some b13), vR (some b14), vI 0, vR (some b16), vR (some b17), vR (some b18), vR (some b19), vR (some b20), vR none, vI 0]) from o12) (by show 21 < 23; decide) ?_
  obtain ⟨H13, eH13⟩ : ∃ H, H = hsO (hsI H12 b21 (40, fun _ => 0)) m (9, [vR (some b0), vI 0, vR (some b2), vR (some b3), vI 0, vI 0, vI 0, vR (some b7), vI 0, vI 0, vI 0, vI 0, vR (some b12), vR (some b13), vR (some b14), vI 0, vR (some b16), vR (some b17), vR (some b18), vR (some b19), vR (some b20), vR none, vI 0].set 21 (vR (some b21))) := ⟨_, rfl⟩
  have o13 : hpO H13 m = some (9, [vR (some b0), vI 0, vR (some b2), vR (some b3), vI 0, vI 0, vI 0, vR (some b7), vI 0, vI 0, vI 0, vI 0, vR (some b12), vR (some b13), vR (some b14), vI 0, vR (some b16), vR (some b17), vR (some b18), vR (some b19), vR (some b20), vR (some b21), vI 0]) := by rw [eH13]; exact sO_s
  have r21 : hpI H13 b21 = some (40, fun _ => 0) := by rw [eH13]; exact sI_s
  have z13 : Xt (A1 m) H12 H13 := by rw [eH13]; exact (Xt.rf.nI n21).tr y
  have x13 : Xt NF hp H13 := by rw [eH13]; exact (x12.nI (x12.new n21)).nO na
  have an13 := an13.mv (F := A1 m) (show Xt (A1 m) _ H13 by rw [eH13]; exact y)
  have ne21 : ¬ A1 m b21 := fun z => exO o12 (by rw [← show _ = m from z]; exact n21)
  rw [← eH13]
  clear eH13
  have w13 : Xt (A1 m) H13 H13 := Xt.rf
  have w12 := z13.tr w13
  have w11 := z12.tr w12
  have w10 := z11.tr w11
  have w9 := z10.tr w10
  have w8 := z9.tr w9
  have w7 := z8.tr w8
  have w6 := z7.tr w7
  have w5 := z6.tr w6
  have w4 := z5.tr w5
  have w3 := z4.tr w4
  have w2 := z3.tr w3
  have w1 := z2.tr w2
  have w0 := z1.tr w1
  obtain ⟨A, hAn, a0, a1, a2, a3, a4, a5, a6, a7, a8, a9, a10, a11, a12⟩ : ∃ A, AN 13 A H13 ∧ A 0 = b0 ∧ A 1 = b2 ∧ A 2 = b3 ∧ A 3 = b7 ∧ A 4 = b12 ∧ A 5 = b13 ∧ A 6 = b14 ∧ A 7 = b16 ∧ A 8 = b17 ∧ A 9 = b18 ∧ A 10 = b19 ∧ A 11 = b20 ∧ A 12 = b21 := ⟨_, an13, rfl, rfl, rfl, rfl, rfl, rfl, rfl, rfl, rfl, rfl, rfl, rfl, rfl⟩
  have hpos : ∀ i ∈ mLs, posM i < 13 := by decide
  have pinj : ∀ i ∈ ([0, 3, 12, 13, 14, 16, 17, 18, 19, 20, 21] : List Nat), ∀ j ∈ ([0, 3, 12, 13, 14, 16, 17, 18, 19, 20, 21] : List Nat), posM i = posM j → i = j := by decide
  have pin : ∀ i ∈ ([0, 3, 12, 13, 14, 16, 17, 18, 19, 20, 21] : List Nat), posM i < 13 := by decide
  refine kk H13 (fun i => A (posM i)) (fun i => if i = 13 then gw else fun _ => 0) ⟨fun i hi j hj e => pinj i hi j hj (hAn.1 _ _ (pin i hi) (pin j hj) e), fun e => absurd (hAn.1 1 3 (by decide) (by decide) e) (by decide)⟩ ⟨?_, ?_, ?_, ?_, ?_, ?_, ?_, ?_, ?_, ?_, ?_, ?_, ?_, ?_⟩ rfl rfl rfl ?_ ?_ x13
  · show hpO H13 m = some (9, [vR (some (A 0)), vI 0, vR (some (A 1)), vR (some (A 2)), vI 0, vI 0, vI 0, vR (some (A 3)), vI 0, vI 0, vI 0, vI 0, vR (some (A 4)), vR (some (A 5)), vR (some (A 6)), vI 0, vR (some (A 7)), vR (some (A 8)), vR (some (A 9)), vR (some (A 10)), vR (some (A 11)), vR (some (A 12)), vI 0])
    rw [a0, a1, a2, a3, a4, a5, a6, a7, a8, a9, a10, a11, a12]
    exact o13
  · show hpI H13 (A 0) = some (4334, fun _ => 0)
    rw [a0]
    exact w1.I ne0 r0
  · show hpZ H13 (A 1) = some (2, fun _ => 0)
    rw [a1]
    exact w2.Z ne2 r2
  · show hpI H13 (A 2) = some (200, fun _ => 0)
    rw [a2]
    exact w3.I ne3 r3
  · show hpZ H13 (A 3) = some (400, fun _ => 0)
    rw [a3]
    exact w4.Z ne7 r7
  · show hpI H13 (A 4) = some (6, fun _ => 0)
    rw [a4]
    exact w5.I ne12 r12
  · show hpI H13 (A 5) = some (16, gw)
    rw [a5]
    exact w6.I ne13 r13
  · show hpI H13 (A 6) = some (10, fun _ => 0)
    rw [a6]
    exact w7.I ne14 r14
  · show hpI H13 (A 7) = some (10, fun _ => 0)
    rw [a7]
    exact w8.I ne16 r16
  · show hpI H13 (A 8) = some (12, fun _ => 0)
    rw [a8]
    exact w9.I ne17 r17
  · show hpI H13 (A 9) = some (12, fun _ => 0)
    rw [a9]
    exact w10.I ne18 r18
  · show hpI H13 (A 10) = some (12, fun _ => 0)
    rw [a10]
    exact w11.I ne19 r19
  · show hpI H13 (A 11) = some (3, fun _ => 0)
    rw [a11]
    exact w12.I ne20 r20
  · show hpI H13 (A 12) = some (40, fun _ => 0)
    rw [a12]
    exact w13.I ne21 r21
  · intro x j hx hj
    show gw (4 * x + j) = wch x j
    rw [egw]
    match x, j, hx, hj with
    | 0, 0, _, _ => rfl
    | 0, 1, _, _ => rfl
    | 0, 2, _, _ => rfl
    | 0, 3, _, _ => rfl
    | 0, n + 4, _, hj => exact absurd hj (by omega)
    | 1, 0, _, _ => rfl
    | 1, 1, _, _ => rfl
    | 1, 2, _, _ => rfl
    | 1, 3, _, _ => rfl
    | 1, n + 4, _, hj => exact absurd hj (by omega)
    | 2, 0, _, _ => rfl
    | 2, 1, _, _ => rfl
    | 2, 2, _, _ => rfl
    | 2, 3, _, _ => rfl
    | 2, n + 4, _, hj => exact absurd hj (by omega)
    | 3, 0, _, _ => rfl
    | 3, 1, _, _ => rfl
    | 3, 2, _, _ => rfl
    | 3, 3, _, _ => rfl
    | 3, n + 4, _, hj => exact absurd hj (by omega)
    | n + 4, _, hx, _ => exact absurd hx (by omega)
  · rintro q (e | ⟨i, hi, e⟩)
    · rw [e]; exact na
    · rw [e]
      have hi' := hpos i hi
      clear e hi
      show ab_new hp (A (posM i))
      generalize posM i = p at hi'
      match p, hi' with
      | 0, _ => rw [a0]; exact x0.new n0
      | 1, _ => rw [a1]; exact x1.new n2
      | 2, _ => rw [a2]; exact x2.new n3
      | 3, _ => rw [a3]; exact x3.new n7
      | 4, _ => rw [a4]; exact x4.new n12
      | 5, _ => rw [a5]; exact x5.new n13
      | 6, _ => rw [a6]; exact x6.new n14
      | 7, _ => rw [a7]; exact x7.new n16
      | 8, _ => rw [a8]; exact x8.new n17
      | 9, _ => rw [a9]; exact x9.new n18
      | 10, _ => rw [a10]; exact x10.new n19
      | 11, _ => rw [a11]; exact x11.new n20
      | 12, _ => rw [a12]; exact x12.new n21
      | n + 13, h => exact absurd h (by omega)
