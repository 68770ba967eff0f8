/-! the class is made -/
theorem Xt.nJ {P : Nat → Prop} {h0 h : AbH} {a : Nat} {c : Nat × (Nat → Int)} (x : Xt P h0 h) (n : ab_new h0 a) : Xt P h0 (hsJ h a c) := ⟨fun q hq => ⟨(x.1 q hq).1, (x.1 q hq).2.1, fun c' e => by
  rw [hJ_J]
  by_cases z : q = a
  · rw [z, n.2.2.1] at e; cases e
  · rw [if_neg z]; exact x.J hq e, (x.1 q hq).2.2.2.1, (x.1 q hq).2.2.2.2⟩, x.2.1, x.2.2.1, x.2.2.2.1, fun q z => x.2.2.2.2 q ⟨z.1, z.2.1, nn_J z.2.2.1, z.2.2.2⟩⟩
theorem Xt.nZ {P : Nat → Prop} {h0 h : AbH} {a : Nat} {c : Nat × (Nat → Int)} (x : Xt P h0 h) (n : ab_new h0 a) : Xt P h0 (hsZ h a c) := ⟨fun q hq => ⟨(x.1 q hq).1, (x.1 q hq).2.1, (x.1 q hq).2.2.1, fun c' e => by
  rw [hZ_Z]
  by_cases z : q = a
  · rw [z, n.2.2.2.1] at e; cases e
  · rw [if_neg z]; exact x.Z hq e, (x.1 q hq).2.2.2.2⟩, x.2.1, x.2.2.1, x.2.2.2.1, fun q z => x.2.2.2.2 q ⟨z.1, z.2.1, z.2.2.1, nn_Z z.2.2.2.1, z.2.2.2.2⟩⟩
def AN (n : Nat) (A : Nat → Nat) (h : AbH) : Prop := (∀ i j, i < n → j < n → A i = A j → i = j) ∧ ∀ i, i < n → ¬ ab_new h (A i)
theorem AN.mv {n : Nat} {A : Nat → Nat} {F : Nat → Prop} {h h' : AbH} (a : AN n A h) (x : Xt F h h') : AN n A h' := ⟨a.1, fun i hi z => a.2 i hi (x.new z)⟩
theorem AN.add {n : Nat} {A : Nat → Nat} {F : Nat → Prop} {h h' : AbH} {q : Nat} (a : AN n A h) (hq : ab_new h q) (hq' : ¬ ab_new h' q) (x : Xt F h h') : AN (n + 1) (va_up A n q) h' := by
  refine ⟨fun i j hi hj e => ?_, fun i hi z => ?_⟩
  · by_cases c1 : i = n
    · by_cases c2 : j = n
      · omega
      · rw [c1, vu_same, vu_ne c2] at e
        exact absurd (by rw [← e]; exact hq) (a.2 j (by omega))
    · by_cases c2 : j = n
      · rw [c2, vu_same, vu_ne c1] at e
        exact absurd (by rw [e]; exact hq) (a.2 i (by omega))
      · rw [vu_ne c1, vu_ne c2] at e
        exact a.1 i j (by omega) (by omega) e
  · by_cases c : i = n
    · rw [c, vu_same] at z
      exact hq' z
    · rw [vu_ne c] at z
      exact a.2 i (by omega) (x.new z)
theorem exO {h : AbH} {q : Nat} {c : Nat × List AbV} (e : hpO h q = some c) : ¬ ab_new h q := fun z => by rw [z.1] at e; cases e
theorem exI {h : AbH} {q : Nat} {c : Nat × (Nat → Int)} (e : hpI h q = some c) : ¬ ab_new h q := fun z => by rw [z.2.1] at e; cases e
theorem exJ {h : AbH} {q : Nat} {c : Nat × (Nat → Int)} (e : hpJ h q = some c) : ¬ ab_new h q := fun z => by rw [z.2.2.1] at e; cases e
theorem exZ {h : AbH} {q : Nat} {c : Nat × (Nat → Int)} (e : hpZ h q = some c) : ¬ ab_new h q := fun z => by rw [z.2.2.2.1] at e; cases e
theorem exR {h : AbH} {q : Nat} {c : Nat × Nat × (Nat → Option Nat)} (e : hpR h q = some c) : ¬ ab_new h q := fun z => by rw [z.2.2.2.2] at e; cases e
theorem sO_s {h : AbH} {a : Nat} {c : Nat × List AbV} : hpO (hsO h a c) a = some c := by rw [hO_O, if_pos rfl]
theorem sI_s {h : AbH} {a : Nat} {c : Nat × (Nat → Int)} : hpI (hsI h a c) a = some c := by rw [hI_I, if_pos rfl]
theorem sJ_s {h : AbH} {a : Nat} {c : Nat × (Nat → Int)} : hpJ (hsJ h a c) a = some c := by rw [hJ_J, if_pos rfl]
theorem sZ_s {h : AbH} {a : Nat} {c : Nat × (Nat → Int)} : hpZ (hsZ h a c) a = some c := by rw [hZ_Z, if_pos rfl]
theorem sR_s {h : AbH} {a : Nat} {c : Nat × Nat × (Nat → Option Nat)} : hpR (hsR h a c) a = some c := by rw [hR_R, if_pos rfl]
abbrev NF : Nat → Prop := fun _ => False
set_option maxRecDepth 100000 in
set_option maxHeartbeats 4000000 in
theorem ci_past {d : Nat} {hp : AbH} {K : Option AbV → AbH → Prop} {ap n : Nat} {A : Nat → Nat} (an : AN n A hp) (na : ab_new hp ap) (kk : ∀ h' aq, PS h' ap aq (fun _ => none) 0 → AN (n + 2) (va_up (va_up A n ap) (n + 1) aq) h' → ab_new hp aq → Xt NF hp h' → K none h') : Vm (d + 1) m_X4_init [vR (some ap)] (hsO hp ap (3, [vR none, vI 0])) K := by
  refine Vm.intro rfl (Nat.le_of_ble_eq_true rfl) (fun _ => B_X4_init_0 ?_)
  intro aq nq h2 e2
  subst e2
  have x1 : Xt NF hp (hsO hp ap (3, [vR none, vI 0])) := Xt.rf.nO na
  have a1 := an.add na (exO sO_s) x1
  have x2 : Xt NF (hsO hp ap (3, [vR none, vI 0])) (hsR (hsO hp ap (3, [vR none, vI 0])) aq (7, 8, fun _ => none)) := Xt.rf.nR nq
  have a2 := a1.add nq (exR sR_s) x2
  have x2' := x1.tr x2
  refine p_i (show hpO (hsR (hsO hp ap (3, [vR none, vI 0])) aq (7, 8, fun _ => none)) ap = some (3, [vR none, vI 0]) from sO_s) (by show 0 < 2; decide) ?_
  refine p_i sO_s (by show 1 < 2; decide) ?_
  refine kk _ aq ⟨sO_s, sR_s⟩ (a2.mv ((xt_O (P := A1 ap) (Or.inl rfl)).tr (xt_O (Or.inl rfl)))) (x1.new nq) ((x2'.nO na).nO na)
set_option maxRecDepth 100000 in
set_option maxHeartbeats 4000000 in
theorem ci_text {d : Nat} {hp : AbH} {K : Option AbV → AbH → Prop} {ax n : Nat} {A : Nat → Nat} (an : AN n A hp) (na : ab_new hp ax) (kk : ∀ h' ab, TX h' ax ab (fun _ => 0) 0 0 0 0 0 → AN (n + 2) (va_up (va_up A n ax) (n + 1) ab) h' → ab_new hp ab → Xt NF hp h' → K none h') : Vm (d + 1) m_X5_init [vR (some ax)] (hsO hp ax (4, [vR none, vI 0, vI 0, vI 0, vI 0, vI 0])) K := by
  refine Vm.intro rfl (Nat.le_of_ble_eq_true rfl) (fun _ => B_X5_init_0 ?_)
  intro ab nq h2 e2
  subst e2
  have x1 : Xt NF hp (hsO hp ax (4, [vR none, vI 0, vI 0, vI 0, vI 0, vI 0])) := Xt.rf.nO na
  have a1 := an.add na (exO sO_s) x1
  have x2 : Xt NF (hsO hp ax (4, [vR none, vI 0, vI 0, vI 0, vI 0, vI 0])) (hsI (hsO hp ax (4, [vR none, vI 0, vI 0, vI 0, vI 0, vI 0])) ab (200, fun _ => 0)) := Xt.rf.nI nq
  have a2 := a1.add nq (exI sI_s) x2
  have x2' := x1.tr x2
  have y : ∀ {h1 : AbH} {c : Nat × List AbV}, Xt (A1 ax) h1 (hsO h1 ax c) := xt_O (Or.inl rfl)
  refine p_i (show hpO (hsI (hsO hp ax (4, [vR none, vI 0, vI 0, vI 0, vI 0, vI 0])) ab (200, fun _ => 0)) ax = some (4, [vR none, vI 0, vI 0, vI 0, vI 0, vI 0]) from sO_s) (by show 0 < 6; decide) ?_
  refine p_i sO_s (by show 1 < 6; decide) (p_i sO_s (by show 2 < 6; decide) (p_i sO_s (by show 3 < 6; decide) (p_i sO_s (by show 4 < 6; decide) (p_i sO_s (by show 5 < 6; decide) ?_))))
  refine kk _ ab ⟨sO_s, sI_s⟩ (a2.mv (((((y.tr y).tr y).tr y).tr y).tr y)) (x1.new nq) ((((((x2'.nO na).nO na).nO na).nO na).nO na).nO na)
set_option maxRecDepth 100000 in
set_option maxHeartbeats 4000000 in
theorem ci_win {d : Nat} {hp : AbH} {K : Option AbV → AbH → Prop} {aw n : Nat} {A : Nat → Nat} (an : AN n A hp) (na : ab_new hp aw) (kk : ∀ h' wf wl, WN h' aw wf wl 0 (fun _ => 0) (fun _ => 0) → AN (n + 3) (va_up (va_up (va_up A n aw) (n + 1) wf) (n + 2) wl) h' → ab_new hp wf → ab_new hp wl → Xt NF hp h' → K none h') : Vm (d + 1) m_X7_init [vR (some aw)] (hsO hp aw (6, [vR none, vR none, vI 0])) K := by
  refine Vm.intro rfl (Nat.le_of_ble_eq_true rfl) (fun _ => B_X7_init_0 ?_)
  intro wf nf h2 e2
  subst e2
  have y : ∀ {h1 : AbH} {c : Nat × List AbV}, Xt (A1 aw) h1 (hsO h1 aw c) := xt_O (Or.inl rfl)
  have x1 : Xt NF hp (hsO hp aw (6, [vR none, vR none, vI 0])) := Xt.rf.nO na
  have a1 := an.add na (exO sO_s) x1
  have x2 : Xt NF (hsO hp aw (6, [vR none, vR none, vI 0])) (hsI (hsO hp aw (6, [vR none, vR none, vI 0])) wf (17, fun _ => 0)) := Xt.rf.nI nf
  have a2 := a1.add nf (exI sI_s) x2
  refine p_i (show hpO (hsI (hsO hp aw (6, [vR none, vR none, vI 0])) wf (17, fun _ => 0)) aw = some (6, [vR none, vR none, vI 0]) from sO_s) (by show 0 < 3; decide) ?_
  have x3 := (x1.tr x2).nO (c := (6, [vR none, vR none, vI 0].set 0 (vR (some wf)))) na
  intro wl nl' h3 e3
  subst e3
  have a3 := (a2.mv (y (c := (6, [vR none, vR none, vI 0].set 0 (vR (some wf)))))).add nl' (exI sI_s) (Xt.rf.nI (P := NF) (c := (17, fun _ => 0)) nl')
  have x4 := x3.nI (c := (17, fun _ => 0)) (x3.new nl')
  refine p_i (show hpO (hsI (hsO _ aw (6, [vR (some wf), vR none, vI 0])) wl (17, fun _ => 0)) aw = some (6, [vR (some wf), vR none, vI 0]) from sO_s) (by show 1 < 3; decide) ?_
  refine p_i sO_s (by show 2 < 3; decide) ?_
  have d1 : wf ≠ wl := fun e => by
    have := nl'.2.1
    rw [← e] at this
    have z : hpI (hsI (hsO hp aw (6, [vR none, vR none, vI 0])) wf (17, fun _ => 0)) wf = none := this
    rw [sI_s] at z
    cases z
  refine kk _ wf wl ⟨sO_s, ?_, sI_s, d1⟩ (a3.mv (y.tr y)) (x1.new nf) (x3.new nl') ((x4.nO na).nO na)
  show hpI (hsI (hsI hp wf (17, fun _ => 0)) wl (17, fun _ => 0)) wf = _
  rw [hI_I, if_neg d1, sI_s]
set_option maxRecDepth 100000 in
set_option maxHeartbeats 4000000 in
theorem ci_lay {d : Nat} {hp : AbH} {K : Option AbV → AbH → Prop} {ay n : Nat} {A : Nat → Nat} (an : AN n A hp) (na : ab_new hp ay) (kk : ∀ h' yi yf yl yy, LY h' ay yi yf yl yy (fun _ => 0) (fun _ => 0) (fun _ => 0) (fun _ => 0) → AN (n + 5) (va_up (va_up (va_up (va_up (va_up A n ay) (n + 1) yi) (n + 2) yf) (n + 3) yl) (n + 4) yy) h' → ab_new hp yi → ab_new hp yf → ab_new hp yl → ab_new hp yy → Xt NF hp h' → K none h') : Vm (d + 1) m_X2_init [vR (some ay)] (hsO hp ay (1, [vR none, vR none, vR none, vR none])) K := by
  have y : ∀ {h1 : AbH} {c : Nat × List AbV}, Xt (A1 ay) h1 (hsO h1 ay c) := xt_O (Or.inl rfl)
  refine Vm.intro rfl (Nat.le_of_ble_eq_true rfl) (fun _ => B_X2_init_0 ?_)
  intro yi n1 h1 e1
  subst e1
  have x1 : Xt NF hp (hsO hp ay (1, [vR none, vR none, vR none, vR none])) := Xt.rf.nO na
  have a1 := an.add na (exO sO_s) x1
  have a2 := a1.add n1 (exI sI_s) (Xt.rf.nI (P := NF) (c := (12, fun _ => 0)) n1)
  have x2 := (x1.nI (c := (12, fun _ => 0)) (x1.new n1)).nO (c := (1, [vR (some yi), vR none, vR none, vR none])) na
  refine p_i (show hpO (hsI (hsO hp ay (1, [vR none, vR none, vR none, vR none])) yi (12, fun _ => 0)) ay = some (1, [vR none, vR none, vR none, vR none]) from sO_s) (by show 0 < 4; decide) ?_
  intro yf n2 h2 e2
  subst e2
  have a3 := (a2.mv (y (c := (1, [vR (some yi), vR none, vR none, vR none])))).add n2 (exI sI_s) (Xt.rf.nI (P := NF) (c := (12, fun _ => 0)) n2)
  have x3 := (x2.nI (c := (12, fun _ => 0)) (x2.new n2)).nO (c := (1, [vR (some yi), vR (some yf), vR none, vR none])) na
  refine p_i (show hpO (hsI (hsO _ ay (1, [vR (some yi), vR none, vR none, vR none])) yf (12, fun _ => 0)) ay = some (1, [vR (some yi), vR none, vR none, vR none]) from sO_s) (by show 1 < 4; decide) ?_
  intro yl n3 h3 e3
  subst e3
  have a4 := (a3.mv (y (c := (1, [vR (some yi), vR (some yf), vR none, vR none])))).add n3 (exI sI_s) (Xt.rf.nI (P := NF) (c := (12, fun _ => 0)) n3)
  have x4 := (x3.nI (c := (12, fun _ => 0)) (x3.new n3)).nO (c := (1, [vR (some yi), vR (some yf), vR (some yl), vR none])) na
  refine p_i (show hpO (hsI (hsO _ ay (1, [vR (some yi), vR (some yf), vR none, vR none])) yl (12, fun _ => 0)) ay = some (1, [vR (some yi), vR (some yf), vR none, vR none]) from sO_s) (by show 2 < 4; decide) ?_
  intro yy n4 h4 e4
  subst e4
  have a5 := (a4.mv (y (c := (1, [vR (some yi), vR (some yf), vR (some yl), vR none])))).add n4 (exI sI_s) (Xt.rf.nI (P := NF) (c := (12, fun _ => 0)) n4)
  have x5 := (x4.nI (c := (12, fun _ => 0)) (x4.new n4)).nO (c := (1, [vR (some yi), vR (some yf), vR (some yl), vR (some yy)])) na
  refine p_i (show hpO (hsI (hsO _ ay (1, [vR (some yi), vR (some yf), vR (some yl), vR none])) yy (12, fun _ => 0)) ay = some (1, [vR (some yi), vR (some yf), vR (some yl), vR none]) from sO_s) (by show 3 < 4; decide) ?_
  have ne : ∀ i j : Nat, i < n + 5 → j < n + 5 → i ≠ j → va_up (va_up (va_up (va_up (va_up A n ay) (n + 1) yi) (n + 2) yf) (n + 3) yl) (n + 4) yy i ≠ va_up (va_up (va_up (va_up (va_up A n ay) (n + 1) yi) (n + 2) yf) (n + 3) yl) (n + 4) yy j := fun i j hi hj hn e => hn (a5.1 i j hi hj e)
  have v1 : va_up (va_up (va_up (va_up (va_up A n ay) (n + 1) yi) (n + 2) yf) (n + 3) yl) (n + 4) yy (n + 1) = yi := by rw [vu_ne (by omega), vu_ne (by omega), vu_ne (by omega), vu_same]
  have v2 : va_up (va_up (va_up (va_up (va_up A n ay) (n + 1) yi) (n + 2) yf) (n + 3) yl) (n + 4) yy (n + 2) = yf := by rw [vu_ne (by omega), vu_ne (by omega), vu_same]
  have v3 : va_up (va_up (va_up (va_up (va_up A n ay) (n + 1) yi) (n + 2) yf) (n + 3) yl) (n + 4) yy (n + 3) = yl := by rw [vu_ne (by omega), vu_same]
  have v4 : va_up (va_up (va_up (va_up (va_up A n ay) (n + 1) yi) (n + 2) yf) (n + 3) yl) (n + 4) yy (n + 4) = yy := by rw [vu_same]
  have d12 := ne (n + 1) (n + 2) (by omega) (by omega) (by omega)
  have d13 := ne (n + 1) (n + 3) (by omega) (by omega) (by omega)
  have d14 := ne (n + 1) (n + 4) (by omega) (by omega) (by omega)
  have d23 := ne (n + 2) (n + 3) (by omega) (by omega) (by omega)
  have d24 := ne (n + 2) (n + 4) (by omega) (by omega) (by omega)
  have d34 := ne (n + 3) (n + 4) (by omega) (by omega) (by omega)
  rw [v1, v2] at d12
  rw [v1, v3] at d13
  rw [v1, v4] at d14
  rw [v2, v3] at d23
  rw [v2, v4] at d24
  rw [v3, v4] at d34
  refine kk _ yi yf yl yy ⟨sO_s, ?_, ?_, ?_, sI_s⟩ (a5.mv y) (x1.new n1) (x2.new n2) (x3.new n3) (x4.new n4) x5
  · show hpI (hsI (hsI (hsI (hsI hp yi (12, fun _ => 0)) yf (12, fun _ => 0)) yl (12, fun _ => 0)) yy (12, fun _ => 0)) yi = _
    rw [hI_I, if_neg d14, hI_I, if_neg d13, hI_I, if_neg d12, sI_s]
  · show hpI (hsI (hsI (hsI (hsI hp yi (12, fun _ => 0)) yf (12, fun _ => 0)) yl (12, fun _ => 0)) yy (12, fun _ => 0)) yf = _
    rw [hI_I, if_neg d24, hI_I, if_neg d23, sI_s]
  · show hpI (hsI (hsI (hsI (hsI hp yi (12, fun _ => 0)) yf (12, fun _ => 0)) yl (12, fun _ => 0)) yy (12, fun _ => 0)) yl = _
    rw [hI_I, if_neg d34, sI_s]
set_option maxRecDepth 100000 in
set_option maxHeartbeats 4000000 in
theorem ci_way {d : Nat} {hp : AbH} {K : Option AbV → AbH → Prop} {v n : Nat} {A : Nat → Nat} (an : AN n A hp) (na : ab_new hp v) (kk : ∀ h' ql qb tr st, WR h' v ql qb tr st (-1) [] → AN (n + 5) (va_up (va_up (va_up (va_up (va_up A n v) (n + 1) ql) (n + 2) qb) (n + 3) tr) (n + 4) st) h' → ab_new hp ql → ab_new hp qb → ab_new hp tr → ab_new hp st → Xt NF hp h' → K none h') : Vm (d + 1) m_X6_init [vR (some v)] (hsO hp v (5, [vR none, vR none, vR none, vR none, vL 0, vI 0, vI 0])) K := by
  have y : ∀ {h1 : AbH} {c : Nat × List AbV}, Xt (A1 v) h1 (hsO h1 v c) := xt_O (Or.inl rfl)
  refine Vm.intro rfl (Nat.le_of_ble_eq_true rfl) (fun _ => B_X6_init_0 ?_)
  intro ql n1 h1 e1
  subst e1
  have x1 : Xt NF hp (hsO hp v (5, [vR none, vR none, vR none, vR none, vL 0, vI 0, vI 0])) := Xt.rf.nO na
  have a1 := an.add na (exO sO_s) x1
  have a2 := a1.add n1 (exR sR_s) (Xt.rf.nR (P := NF) (c := (0, 400, fun _ => none)) n1)
  have x2 := (x1.nR (c := (0, 400, fun _ => none)) (x1.new n1)).nO (c := (5, [vR (some ql), vR none, vR none, vR none, vL 0, vI 0, vI 0])) na
  refine p_i (show hpO (hsR (hsO hp v (5, [vR none, vR none, vR none, vR none, vL 0, vI 0, vI 0])) ql (0, 400, fun _ => none)) v = some (5, [vR none, vR none, vR none, vR none, vL 0, vI 0, vI 0]) from sO_s) (by show 0 < 7; decide) ?_
  intro qb n2 h2 e2
  subst e2
  have a3 := (a2.mv (y (c := (5, [vR (some ql), vR none, vR none, vR none, vL 0, vI 0, vI 0])))).add n2 (exZ sZ_s) (Xt.rf.nZ (P := NF) (c := (100, fun _ => 0)) n2)
  have x3 := (x2.nZ (c := (100, fun _ => 0)) (x2.new n2)).nO (c := (5, [vR (some ql), vR (some qb), vR none, vR none, vL 0, vI 0, vI 0])) na
  refine p_i (show hpO (hsZ (hsO _ v (5, [vR (some ql), vR none, vR none, vR none, vL 0, vI 0, vI 0])) qb (100, fun _ => 0)) v = some (5, [vR (some ql), vR none, vR none, vR none, vL 0, vI 0, vI 0]) from sO_s) (by show 1 < 7; decide) ?_
  intro tr n3 h3 e3
  subst e3
  have a4 := (a3.mv (y (c := (5, [vR (some ql), vR (some qb), vR none, vR none, vL 0, vI 0, vI 0])))).add n3 (exJ sJ_s) (Xt.rf.nJ (P := NF) (c := (12, fun _ => 0)) n3)
  have x4 := (x3.nJ (c := (12, fun _ => 0)) (x3.new n3)).nO (c := (5, [vR (some ql), vR (some qb), vR (some tr), vR none, vL 0, vI 0, vI 0])) na
  refine p_i (show hpO (hsJ (hsO _ v (5, [vR (some ql), vR (some qb), vR none, vR none, vL 0, vI 0, vI 0])) tr (12, fun _ => 0)) v = some (5, [vR (some ql), vR (some qb), vR none, vR none, vL 0, vI 0, vI 0]) from sO_s) (by show 2 < 7; decide) ?_
  intro st n4 h4 e4
  subst e4
  have a5 := (a4.mv (y (c := (5, [vR (some ql), vR (some qb), vR (some tr), vR none, vL 0, vI 0, vI 0])))).add n4 (exI sI_s) (Xt.rf.nI (P := NF) (c := (3, fun _ => 0)) n4)
  have x5 := x4.nI (c := (3, fun _ => 0)) (x4.new n4)
  refine p_i (show hpO (hsI (hsO _ v (5, [vR (some ql), vR (some qb), vR (some tr), vR none, vL 0, vI 0, vI 0])) st (3, fun _ => 0)) v = some (5, [vR (some ql), vR (some qb), vR (some tr), vR none, vL 0, vI 0, vI 0]) from sO_s) (by show 3 < 7; decide) ?_
  refine p_i sO_s (by show 4 < 7; decide) (p_i sO_s (by show 5 < 7; decide) (p_i sO_s (by show 6 < 7; decide) ?_))
  refine kk _ ql qb tr st ⟨0, 0, fun _ => none, fun _ => 0, fun _ => 0, fun _ => 0, sO_s, sR_s, sZ_s, sJ_s, sI_s, fun j hj => absurd hj (Nat.not_lt_zero j)⟩ (a5.mv (((y.tr y).tr y).tr y)) (x1.new n1) (x2.new n2) (x3.new n3) (x4.new n4) ((((x5.nO na).nO na).nO na).nO na)
