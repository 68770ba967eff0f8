theorem vu_of {α : Type} {f : Nat → α} {k : Nat} {v : α} (h : f k = v) : va_up f k v = f := by
  rw [← h]
  exact vu_self
theorem hsZ_self {h : AbH} {q : Nat} {c : Nat × (Nat → Int)} (e : hpZ h q = some c) : hsZ h q c = h := by
  show (h.1, h.2.1, h.2.2.1, va_up (hpZ h) q (some c), h.2.2.2.2) = h
  rw [vu_of e]
  rfl
theorem hsI_self {h : AbH} {q : Nat} {c : Nat × (Nat → Int)} (e : hpI h q = some c) : hsI h q c = h := by
  show (h.1, va_up (hpI h) q (some c), h.2.2) = h
  rw [vu_of e]
  rfl
theorem hsJ_self {h : AbH} {q : Nat} {c : Nat × (Nat → Int)} (e : hpJ h q = some c) : hsJ h q c = h := by
  show (h.1, h.2.1, va_up (hpJ h) q (some c), h.2.2.2) = h
  rw [vu_of e]
  rfl
theorem hsR_self {h : AbH} {q : Nat} {c : Nat × Nat × (Nat → Option Nat)} (e : hpR h q = some c) : hsR h q c = h := by
  show (h.1, h.2.1, h.2.2.1, h.2.2.2.1, va_up (hpR h) q (some c), h.2.2.2.2.2) = h
  rw [vu_of e]
  rfl
def pwH (h : AbH) (ql qb : Nat) (LW : Nat → Option Nat) (BZ : Nat → Int) : AbH := hsZ (hsR h ql (0, 400, LW)) qb (100, BZ)
theorem pw_R {h : AbH} {ql qb : Nat} {LW LW' : Nat → Option Nat} {BZ : Nat → Int} : hsR (pwH h ql qb LW BZ) ql (0, 400, LW') = pwH h ql qb LW' BZ := by
  unfold pwH hsZ hsR
  rw [vu_up]
theorem pw_Z {h : AbH} {ql qb : Nat} {LW : Nat → Option Nat} {BZ BZ' : Nat → Int} : hsZ (pwH h ql qb LW BZ) qb (100, BZ') = pwH h ql qb LW BZ' := by
  unfold pwH hsZ hsR
  rw [vu_up]
theorem pw_l {h : AbH} {ql qb : Nat} {LW : Nat → Option Nat} {BZ : Nat → Int} : hpR (pwH h ql qb LW BZ) ql = some (0, 400, LW) := by
  show hpR (hsR h ql (0, 400, LW)) ql = _
  rw [hR_R, if_pos rfl]
theorem pw_b {h : AbH} {ql qb : Nat} {LW : Nat → Option Nat} {BZ : Nat → Int} : hpZ (pwH h ql qb LW BZ) qb = some (100, BZ) := by
  unfold pwH
  rw [hZ_Z, if_pos rfl]
theorem pw_self {h : AbH} {ql qb : Nat} {LW : Nat → Option Nat} {BZ : Nat → Int} (h1 : hpR h ql = some (0, 400, LW)) (h2 : hpZ h qb = some (100, BZ)) : pwH h ql qb LW BZ = h := by
  unfold pwH
  rw [hsR_self h1, hsZ_self h2]
theorem wy_self {h : AbH} {tr st : Nat} {T S : Nat → Int} (h1 : hpJ h tr = some (12, T)) (h2 : hpI h st = some (3, S)) : wyH h tr st T S = h := by
  unfold wyH
  rw [hsJ_self h1, hsI_self h2]
theorem xt_pw {P : Nat → Prop} {h : AbH} {ql qb : Nat} {LW : Nat → Option Nat} {BZ : Nat → Int} (h1 : P ql) (h2 : P qb) : Xt P h (pwH h ql qb LW BZ) := (xt_R (Or.inl h1)).tr (xt_Z (Or.inl h2))
theorem PW.mv {w : Nat → Int} {h h' : AbH} {N M : Nat} {LW : Nat → Option Nat} {BZ : Nat → Int} (c : PW w h N M LW BZ) (hm : ∀ b fs, hpO h b = some (0, fs) → hpO h' b = some (0, fs)) : PW w h' N M LW BZ := by
  refine ⟨fun D t h1 h2 => ?_, c.2⟩
  rcases c.1 D t h1 h2 with ⟨k, b, q1, q2, q3, q4, q5⟩ | q
  · exact Or.inl ⟨k, b, q1, q2, q3, hm _ _ q4, q5⟩
  · exact Or.inr q
set_option maxRecDepth 100000 in
set_option maxHeartbeats 4000000 in
theorem cc_vprepare {d : Nat} {h : AbH} {K : Option AbV → AbH → Prop} {P : Nat → Prop} {a v ql qb tr st : Nat} {E g n : Int} {w : Nat → Int} {LW0 : Nat → Option Nat} {BZ0 : Nat → Int} (cw : CW P h a w) (ho : hpO h v = some (5, wyF ql qb tr st E g n)) (hl : hpR h ql = some (0, 400, LW0)) (hb : hpZ h qb = some (100, BZ0)) (p1 : P ql) (p2 : P qb) (kk : ∀ LW BZ, PW w h 16 16 LW BZ → K none (pwH h ql qb LW BZ)) : Vm (d + 3) m_X6_prepare [vR (some v), vR (some a)] h K := by
  have hw := cw.1
  obtain ⟨n1, n2⟩ := hw.nlw
  have ho1 : ∀ LW BZ, hpO (pwH h ql qb LW BZ) v = some (5, wyF ql qb tr st E g n) := fun _ _ => ho
  have cw1 : ∀ LW BZ, CW P (pwH h ql qb LW BZ) a w := fun LW BZ => cw.mv (xt_pw p1 p2)
  -- the meetings
  have F124 : ∀ LW BZ, PW w h 16 0 LW BZ → Vx (d + 3) m_X6_prepare 0 0 124 [some (vR (some v)), some (vR (some a)), some (vI 0), none] [] (pwH h ql qb LW BZ) K := by
    intro LW BZ hp
    refine lp_up (P := fun i => ∀ BZ, PW w h 16 i LW BZ → Vx (d + 3) m_X6_prepare 0 0 124 [some (vR (some v)), some (vR (some a)), some (vI (i : Int)), none] [] (pwH h ql qb LW BZ) K) (n := 16) ?_ ?_ 0 (by omega) BZ hp
    · intro BZ hp
      exact B_X6_prepare_124 ⟨fun _ => kk LW BZ hp, fun z => absurd (by decide) z⟩
    · intro i hi ih BZ hp
      refine B_X6_prepare_124 ⟨fun z => absurd z (by omega), fun _ => ?_⟩
      obtain ⟨-, al, ao, af, ae, g1, g2, ff, fl, cx, -⟩ := cw1 LW BZ
      refine cv_i cx.1 (cc_firstOf cx ?_)
      simp only [kI_some, kL_some, kR_some, kV_none, ne_eq, not_true_eq_false, not_false_eq_true, true_implies, false_implies, implies_true, true_and, and_true, ab_z01, or_true, true_or, reduceCtorEq, Option.some.injEq, Int.reduceEq, Int.reduceNe, Int.reduceLT, Int.reduceLE, Int.reduceNeg, Int.reduceAdd, Int.reduceSub, Int.reduceMul, Nat.reduceEqDiff, Nat.reduceAdd, Nat.reduceMul, Int.reduceToNat, ↓reduceIte]
      have hm := hw.met (98 + 2 * i) (by omega) (by omega)
      have e : fO w (i : Int) = w (98 + 2 * i) - 1 := by unfold fO; rw [if_pos (by omega), Int.toNat_natCast]
      rw [e]
      refine cc_isDate (fun q => ?_) (fun q => ?_) <;> simp only [kI_some, kL_some, kR_some, kV_none, ne_eq, not_true_eq_false, not_false_eq_true, true_implies, false_implies, implies_true, true_and, and_true, ab_z01, or_true, true_or, reduceCtorEq, Option.some.injEq, Int.reduceEq, Int.reduceNe, Int.reduceLT, Int.reduceLE, Int.reduceNeg, Int.reduceAdd, Int.reduceSub, Int.reduceMul, Nat.reduceEqDiff, Nat.reduceAdd, Nat.reduceMul, Int.reduceToNat, ↓reduceIte]
      · refine gR_i (ho1 _ _) rfl (sZ_i pw_b (by omega) (by omega) (Or.inr rfl) ?_)
        rw [pw_Z]
        refine ⟨i3 (by omega) (by omega), ih _ ⟨hp.1, fun D hD => ?_⟩⟩
        have := hp.2 D hD
        by_cases c : D = (w (98 + 2 * i) - 1).toNat
        · rw [c, vu_same]
          exact ⟨fun _ => Or.inr ⟨i, hi, by omega, by omega⟩, fun _ => by decide⟩
        · rw [vu_ne c, this]
          constructor
          · rintro (z | ⟨p, z1, z2, z3⟩)
            · exact Or.inl z
            · exact Or.inr ⟨p, z1, by omega, z3⟩
          · rintro (z | ⟨p, z1, z2, z3⟩)
            · exact Or.inl z
            · by_cases e : p = i
              · rw [e] at z3; omega
              · exact Or.inr ⟨p, z1, by omega, z3⟩
      · refine ⟨i3 (by omega) (by omega), ih _ ⟨hp.1, fun D hD => ?_⟩⟩
        rw [hp.2 D hD]
        constructor
        · rintro (z | ⟨p, z1, z2, z3⟩)
          · exact Or.inl z
          · exact Or.inr ⟨p, z1, by omega, z3⟩
        · rintro (z | ⟨p, z1, z2, z3⟩)
          · exact Or.inl z
          · by_cases e : p = i
            · rw [e] at z3; omega
            · exact Or.inr ⟨p, z1, by omega, z3⟩
  -- the laws
  have F50 : ∀ LW BZ, PW w h 0 0 LW BZ → Vx (d + 3) m_X6_prepare 0 0 50 [some (vR (some v)), some (vR (some a)), some (vI 0), none] [] (pwH h ql qb LW BZ) K := by
    intro LW BZ hp
    refine lp_up (P := fun i => ∀ LW BZ, PW w h i 0 LW BZ → Vx (d + 3) m_X6_prepare 0 0 50 [some (vR (some v)), some (vR (some a)), some (vI (i : Int)), none] [] (pwH h ql qb LW BZ) K) (n := 16) ?_ ?_ 0 (by omega) LW BZ hp
    · intro LW BZ hp
      exact B_X6_prepare_50 ⟨fun _ => F124 LW BZ hp, fun z => absurd (by decide) z⟩
    · intro i hi ih LW BZ hp
      refine B_X6_prepare_50 ⟨fun z => absurd z (by omega), fun _ => ?_⟩
      obtain ⟨-, al, ao, af, ae, g1, g2, ff, fl, cx, -⟩ := cw1 LW BZ
      refine cv_i cx.1 ?_
      refine cc_lawAt hw cx (fun k hk hkn b hb1 hb2 hb3 => ?_) (fun z => ?_) <;> simp only [kI_some, kL_some, kR_some, kV_none, ne_eq, not_true_eq_false, not_false_eq_true, true_implies, false_implies, implies_true, true_and, and_true, ab_z01, or_true, true_or, reduceCtorEq, Option.some.injEq, Int.reduceEq, Int.reduceNe, Int.reduceLT, Int.reduceLE, Int.reduceNeg, Int.reduceAdd, Int.reduceSub, Int.reduceMul, Nat.reduceEqDiff, Nat.reduceAdd, Nat.reduceMul, Int.reduceToNat, ↓reduceIte]
      · have hk : k = i := by omega
        rw [hk] at hkn hb2
        obtain ⟨v1, v2, -⟩ := hw.2.1 i hkn
        have v1a := v1.1
        have v1b := v1.2
        refine gI_i hb2 rfl ?_
        refine cc_isDate (fun _ => ?_) (fun q => absurd (by omega) q)
        simp only [kI_some, kL_some, kR_some, kV_none, ne_eq, not_true_eq_false, not_false_eq_true, true_implies, false_implies, implies_true, true_and, and_true, ab_z01, or_true, true_or, reduceCtorEq, Option.some.injEq, Int.reduceEq, Int.reduceNe, Int.reduceLT, Int.reduceLE, Int.reduceNeg, Int.reduceAdd, Int.reduceSub, Int.reduceMul, Nat.reduceEqDiff, Nat.reduceAdd, Nat.reduceMul, Int.reduceToNat, ↓reduceIte]
        refine gI_i hb2 rfl ?_
        refine cc_isTongue (fun _ => ?_) (fun q => absurd v1 q)
        simp only [kI_some, kL_some, kR_some, kV_none, ne_eq, not_true_eq_false, not_false_eq_true, true_implies, false_implies, implies_true, true_and, and_true, ab_z01, or_true, true_or, reduceCtorEq, Option.some.injEq, Int.reduceEq, Int.reduceNe, Int.reduceLT, Int.reduceLE, Int.reduceNeg, Int.reduceAdd, Int.reduceSub, Int.reduceMul, Nat.reduceEqDiff, Nat.reduceAdd, Nat.reduceMul, Int.reduceToNat, ↓reduceIte]
        refine gR_i (ho1 _ _) rfl (gI_i hb2 rfl ⟨i3 (by omega) (by omega), gI_i hb2 rfl ⟨i3 (by omega) (by omega), ?_⟩⟩)
        refine sR_i pw_l (by omega) (by omega) (fun b' e => ?_) ?_
        · have e : b = b' := by simpa using e
          rw [← e]
          exact ⟨_, hb2⟩
        rw [pw_R]
        refine gR_i (ho1 _ _) rfl (gI_i (show hpO (pwH h ql qb _ BZ) b = _ from hb2) rfl (sZ_i pw_b (by omega) (by omega) (Or.inr rfl) ?_))
        rw [pw_Z]
        refine ⟨i3 (by omega) (by omega), ih _ _ ⟨fun D t hD ht => ?_, fun D hD => ?_⟩⟩
        · by_cases c : 4 * D + t = (lw w i 1 * 4 + lw w i 0).toNat
          · rw [c, vu_same]
            exact Or.inl ⟨i, b, hkn, by omega, rfl, hb2, by omega, by omega⟩
          · rw [vu_ne c]
            rcases hp.1 D t hD ht with ⟨k', b', q1, q2, q3⟩ | ⟨q1, q2⟩
            · exact Or.inl ⟨k', b', q1, by omega, q3⟩
            · refine Or.inr ⟨q1, fun k' h1 h2 h3 => ?_⟩
              by_cases e : k' = i
              · rw [e] at h3; omega
              · exact q2 k' h1 (by omega) h3
        · by_cases c : D = (lw w i 1).toNat
          · rw [c, vu_same]
            exact ⟨fun _ => Or.inl ⟨i, hkn, by omega, by omega⟩, fun _ => by decide⟩
          · rw [vu_ne c, hp.2 D hD]
            constructor
            · rintro (⟨k', z1, z2, z3⟩ | z)
              · exact Or.inl ⟨k', z1, by omega, z3⟩
              · exact Or.inr z
            · rintro (⟨k', z1, z2, z3⟩ | z)
              · by_cases e : k' = i
                · rw [e] at z3; omega
                · exact Or.inl ⟨k', z1, by omega, z3⟩
              · exact Or.inr z
      · refine ⟨i3 (by omega) (by omega), ih LW BZ ⟨fun D t hD ht => ?_, fun D hD => ?_⟩⟩
        · rcases hp.1 D t hD ht with ⟨k', b', q1, q2, q3⟩ | ⟨q1, q2⟩
          · exact Or.inl ⟨k', b', q1, by omega, q3⟩
          · exact Or.inr ⟨q1, fun k' h1 h2 h3 => q2 k' h1 (by omega) h3⟩
        · rw [hp.2 D hD]
          constructor
          · rintro (⟨k', z1, z2, z3⟩ | z)
            · exact Or.inl ⟨k', z1, by omega, z3⟩
            · exact Or.inr z
          · rintro (⟨k', z1, z2, z3⟩ | z)
            · exact Or.inl ⟨k', z1, by omega, z3⟩
            · exact Or.inr z
  -- emptied
  have F26 : ∀ LW BZ, (∀ j, j < 400 → LW j = none) → Vx (d + 3) m_X6_prepare 0 0 26 [some (vR (some v)), some (vR (some a)), some (vI 0), none] [] (pwH h ql qb LW BZ) K := by
    intro LW BZ hL
    refine lp_up (P := fun i => ∀ BZ, (∀ j, j < i → BZ j = 0) → Vx (d + 3) m_X6_prepare 0 0 26 [some (vR (some v)), some (vR (some a)), some (vI (i : Int)), none] [] (pwH h ql qb LW BZ) K) (n := 100) ?_ ?_ 0 (by omega) BZ (fun j hj => absurd hj (by omega))
    · intro BZ hz
      refine B_X6_prepare_26 (gR_i (ho1 _ _) rfl (nZ_i pw_b ⟨fun _ => ?_, fun z => absurd (by decide) z⟩))
      refine F50 LW BZ ⟨fun D t hD ht => Or.inr ⟨hL _ (by omega), fun k _ hk => absurd hk (by omega)⟩, fun D hD => ?_⟩
      rw [hz D hD]
      exact ⟨fun z => absurd rfl z, fun z => by rcases z with ⟨k, _, hk, _⟩ | ⟨p, _, hp, _⟩ <;> omega⟩
    · intro i hi ih BZ hz
      refine B_X6_prepare_26 (gR_i (ho1 _ _) rfl (nZ_i pw_b ⟨fun z => absurd z (by omega), fun _ => ?_⟩))
      refine gR_i (ho1 _ _) rfl (sZ_i pw_b (by omega) (by omega) (Or.inl rfl) ?_)
      rw [pw_Z, Int.toNat_natCast]
      refine ⟨i3 (by omega) (by omega), ih _ (fun j hj => ?_)⟩
      by_cases e : j = i
      · rw [e, vu_same]
      · rw [vu_ne e]
        exact hz j (by omega)
  refine Vm.intro rfl (Nat.le_of_ble_eq_true rfl) (fun _ => B_X6_prepare_0 ?_)
  have key := lp_up (P := fun i => ∀ LW, (∀ j, j < i → LW j = none) → Vx (d + 3) m_X6_prepare 0 0 2 [some (vR (some v)), some (vR (some a)), some (vI (i : Int)), none] [] (pwH h ql qb LW BZ0) K) (n := 400) ?_ ?_ 0 (by omega) LW0 (fun j hj => absurd hj (by omega))
  · rw [pw_self hl hb] at key
    exact key
  · intro LW hz
    exact B_X6_prepare_2 (gR_i (ho1 _ _) rfl (nR_i pw_l ⟨fun _ => F26 LW BZ0 hz, fun z => absurd (by decide) z⟩))
  · intro i hi ih LW hz
    refine B_X6_prepare_2 (gR_i (ho1 _ _) rfl (nR_i pw_l ⟨fun z => absurd z (by omega), fun _ => ?_⟩))
    refine gR_i (ho1 _ _) rfl (sR_i pw_l (by omega) (by omega) (fun b e => absurd e (by simp)) ?_)
    rw [pw_R, Int.toNat_natCast]
    refine ⟨i3 (by omega) (by omega), ih _ (fun j hj => ?_)⟩
    by_cases e : j = i
    · rw [e, vu_same]
    · rw [vu_ne e]
      exact hz j (by omega)
def V5 (v ql qb tr st : Nat) (q : Nat) : Prop := q = v ∨ q = ql ∨ q = qb ∨ q = tr ∨ q = st
/-- the way stands, with n steps l -/
def WR (h : AbH) (v ql qb tr st : Nat) (n : Int) (l : List Nat) : Prop := ∃ E g LW BZ T S, hpO h v = some (5, wyF ql qb tr st E g n) ∧ hpR h ql = some (0, 400, LW) ∧ hpZ h qb = some (100, BZ) ∧ hpJ h tr = some (12, T) ∧ hpI h st = some (3, S) ∧ ∀ j, j < l.length → S j = ((l.getD j 0 : Nat) : Int)
theorem WR.mv {P : Nat → Prop} {h h' : AbH} {v ql qb tr st : Nat} {n : Int} {l : List Nat} (c : WR h v ql qb tr st n l) (x : Xt P h h') (hq : ∀ q, V5 v ql qb tr st q → ¬ P q) : WR h' v ql qb tr st n l := by
  obtain ⟨E, g, LW, BZ, T, S, c1, c2, c3, c4, c5, c6⟩ := c
  exact ⟨E, g, LW, BZ, T, S, x.O (hq _ (Or.inl rfl)) c1, x.R (hq _ (Or.inr (Or.inl rfl))) c2, x.Z (hq _ (Or.inr (Or.inr (Or.inl rfl)))) c3, x.J (hq _ (Or.inr (Or.inr (Or.inr (Or.inl rfl))))) c4, x.I (hq _ (Or.inr (Or.inr (Or.inr (Or.inr rfl))))) c5, c6⟩
set_option maxRecDepth 100000 in
set_option maxHeartbeats 4000000 in
theorem cc_vfind {d : Nat} {h : AbH} {K : Option AbV → AbH → Prop} {P : Nat → Prop} {a v ql qb tr st k e t : Nat} {g : Int} {w : Nat → Int} {n0 : Int} {l0 : List Nat} (cw : CW P h a w) (hdg : dg w) (c : WR h v ql qb tr st n0 l0) (hP : ∀ q, V5 v ql qb tr st q → P q) (hk : k < no w) (he : e < no w) (ht : t < 4) (hg : tg g) (kk : ∀ h' n l, Xt (V5 v ql qb tr st) h h' → isRd w k (t : Int) e g n l → WR h' v ql qb tr st n l → K none h') : Vm (d + 11) m_X6_find [vR (some v), vR (some a), vL (enc (word w k) : Int), vI (t : Int), vL (enc (wend w e) : Int), vI g] h K := by
  have hw := cw.1
  have hlk := hw.2.2.2.2 k hk
  have hle := hw.2.2.2.2 e he
  obtain ⟨E0, g0, LW0, BZ0, T0, S0, c1, c2, c3, c4, c5, c6⟩ := c
  have pv := hP v (Or.inl rfl)
  have pl := hP ql (Or.inr (Or.inl rfl))
  have pb := hP qb (Or.inr (Or.inr (Or.inl rfl)))
  have pt := hP tr (Or.inr (Or.inr (Or.inr (Or.inl rfl))))
  have ps := hP st (Or.inr (Or.inr (Or.inr (Or.inr rfl))))
  refine Vm.intro rfl (Nat.le_of_ble_eq_true rfl) (fun _ => B_X6_find_0 ?_)
  refine p_i c1 (by show 4 < 7; decide) ?_
  have o1 : hpO (hsO h v (5, (wyF ql qb tr st E0 g0 n0).set 4 (vL (enc (wend w e) : Int)))) v = some (5, wyF ql qb tr st (enc (wend w e) : Int) g0 n0) := by rw [hO_O, if_pos rfl]; rfl
  refine p_i o1 (by show 5 < 7; decide) ?_
  obtain ⟨h2, hh2⟩ : ∃ h2, h2 = hsO (hsO h v (5, (wyF ql qb tr st E0 g0 n0).set 4 (vL (enc (wend w e) : Int)))) v (5, (wyF ql qb tr st (enc (wend w e) : Int) g0 n0).set 5 (vI g)) := ⟨_, rfl⟩
  rw [← hh2]
  have o2 : hpO h2 v = some (5, wyF ql qb tr st (enc (wend w e) : Int) g n0) := by rw [hh2, hO_O, if_pos rfl]; rfl
  have X2 : Xt (V5 v ql qb tr st) h h2 := by rw [hh2]; exact (xt_O (Or.inl (Or.inl rfl))).tr (xt_O (Or.inl (Or.inl rfl)))
  have l2 : hpR h2 ql = some (0, 400, LW0) := by rw [hh2]; exact c2
  have b2 : hpZ h2 qb = some (100, BZ0) := by rw [hh2]; exact c3
  have t2 : hpJ h2 tr = some (12, T0) := by rw [hh2]; exact c4
  have s2 : hpI h2 st = some (3, S0) := by rw [hh2]; exact c5
  refine cv_i o2 ?_
  refine cc_vprepare (cw.mv (X2.mono hP)) o2 l2 b2 pl pb (fun LW BZ hp => ?_)
  simp only [kI_some, kL_some, kR_some, kV_none, ne_eq, not_true_eq_false, not_false_eq_true, true_implies, false_implies, implies_true, true_and, and_true, ab_z01, or_true, true_or, reduceCtorEq, Option.some.injEq, Int.reduceEq, Int.reduceNe, Int.reduceLT, Int.reduceLE, Int.reduceNeg, Int.reduceAdd, Int.reduceSub, Int.reduceMul, Nat.reduceEqDiff, Nat.reduceAdd, Nat.reduceMul, Int.reduceToNat, ↓reduceIte]
  obtain ⟨h3, hh3⟩ : ∃ h3, h3 = pwH h2 ql qb LW BZ := ⟨_, rfl⟩
  rw [← hh3]
  have X3 : Xt (V5 v ql qb tr st) h h3 := by rw [hh3]; exact X2.tr (xt_pw (Or.inr (Or.inl rfl)) (Or.inr (Or.inr (Or.inl rfl))))
  have o3 : hpO h3 v = some (5, wyF ql qb tr st (enc (wend w e) : Int) g n0) := by rw [hh3]; exact o2
  have l3 : hpR h3 ql = some (0, 400, LW) := by rw [hh3]; exact pw_l
  have b3 : hpZ h3 qb = some (100, BZ) := by rw [hh3]; exact pw_b
  have t3 : hpJ h3 tr = some (12, T0) := by rw [hh3]; exact t2
  have s3 : hpI h3 st = some (3, S0) := by rw [hh3]; exact s2
  have p3 : PW w h3 16 16 LW BZ := by rw [hh3]; exact hp
  refine lp_up (P := fun i => ∀ h3 n0 T0 S0, Xt (V5 v ql qb tr st) h h3 → hpO h3 v = some (5, wyF ql qb tr st (enc (wend w e) : Int) g n0) → hpR h3 ql = some (0, 400, LW) → hpZ h3 qb = some (100, BZ) → hpJ h3 tr = some (12, T0) → hpI h3 st = some (3, S0) → PW w h3 16 16 LW BZ → (∀ l', l'.length < i → okP w 0 l' → ¬ arrM w (wend w e) g (t : Int) 0 (word w k) l') → Vx (d + 11) m_X6_find 0 0 20 [some (vR (some v)), some (vR (some a)), some (vL (enc (word w k) : Int)), none, some (vI (t : Int)), some (vL (enc (wend w e) : Int)), none, some (vI g), some (vI (i : Int))] [] h3 K) (n := 4) ?_ ?_ 0 (by omega) h3 n0 T0 S0 X3 o3 l3 b3 t3 s3 p3 (fun l' hl => absurd hl (by omega))
  · intro h3 n0 T0 S0 X3 o3 l3 b3 t3 s3 p3 hno
    refine B_X6_find_20 ⟨fun _ => ?_, fun z => absurd (by decide) z⟩
    refine p_i o3 (by show 6 < 7; decide) ?_
    refine kk _ (-1) [] (X3.tr (xt_O (Or.inl (Or.inl rfl)))) (Or.inl ⟨rfl, rfl, fun l' hl => hno l' (by omega)⟩) ⟨(enc (wend w e) : Int), g, LW, BZ, T0, S0, ?_, l3, b3, t3, s3, fun j hj => absurd hj (Nat.not_lt_zero j)⟩
    rw [hO_O, if_pos rfl]
    rfl
  · intro i hi ih h3 n0 T0 S0 X3 o3 l3 b3 t3 s3 p3 hno
    refine B_X6_find_20 ⟨fun z => absurd z (by omega), fun _ => ?_⟩
    refine p_i o3 (by show 6 < 7; decide) ?_
    obtain ⟨h4, hh4⟩ : ∃ h4, h4 = hsO h3 v (5, (wyF ql qb tr st (enc (wend w e) : Int) g n0).set 6 (vI (i : Int))) := ⟨_, rfl⟩
    rw [← hh4]
    have X4 : Xt (V5 v ql qb tr st) h h4 := by rw [hh4]; exact X3.tr (xt_O (Or.inl (Or.inl rfl)))
    have o4 : hpO h4 v = some (5, wyF ql qb tr st (enc (wend w e) : Int) g (i : Int)) := by rw [hh4, hO_O, if_pos rfl]; rfl
    have l4 : hpR h4 ql = some (0, 400, LW) := by rw [hh4]; exact l3
    have b4 : hpZ h4 qb = some (100, BZ) := by rw [hh4]; exact b3
    have t4 : hpJ h4 tr = some (12, T0) := by rw [hh4]; exact t3
    have s4 : hpI h4 st = some (3, S0) := by rw [hh4]; exact s3
    have p4 : PW w h4 16 16 LW BZ := p3.mv (fun b fs hbf => by
      rw [hh4, hO_O]
      by_cases z : b = v
      · rw [z, o3] at hbf
        exact absurd hbf (by simp)
      · rw [if_neg z]
        exact hbf)
    refine cv_i o4 ?_
    have VCi : VC P h4 a w v ql qb tr st (wend w e) g i LW BZ := ⟨cw.mv (X4.mono hP), hdg, o4, l4, b4, p4, pt, ps, wend_V hle, hg, by omega⟩
    have run := cc_vleads VCi i (10 - 4 - 2 * i + d) 0 0 t T0 S0 (word w k) (kI (fun n4 h3 => ((n4 = 0 → in32 ((i : Int) + 1) ∧ Vx (d + 11) m_X6_find 0 0 20 [some (vR (some v)), some (vR (some a)), some (vL (enc (word w k) : Int)), none, some (vI (t : Int)), some (vL (enc (wend w e) : Int)), none, some (vI g), some (vI ((i : Int) + 1))] [] h3 K) ∧ (¬ (n4 = 0) → K none h3)))) (by omega) (by decide) rfl ht (word_V hlk) (fun T' S' l q1 q2 q3 q4 q5 _ => ?_) (fun T' S' _ _ q => ?_)
    · rw [wy_self t4 s4, show 10 - 4 - 2 * i + d + 2 * i + 4 = d + 10 by omega] at run
      exact run
    · simp only [kI_some, kL_some, kR_some, kV_none, ne_eq, not_true_eq_false, not_false_eq_true, true_implies, false_implies, implies_true, true_and, and_true, ab_z01, or_true, true_or, reduceCtorEq, Option.some.injEq, Int.reduceEq, Int.reduceNe, Int.reduceLT, Int.reduceLE, Int.reduceNeg, Int.reduceAdd, Int.reduceSub, Int.reduceMul, Nat.reduceEqDiff, Nat.reduceAdd, Nat.reduceMul, Int.reduceToNat, ↓reduceIte]
      refine kk _ (i : Int) l (X4.tr (xt_wy (Or.inr (Or.inr (Or.inr (Or.inl rfl)))) (Or.inr (Or.inr (Or.inr (Or.inr rfl)))))) (Or.inr ⟨by rw [q1], by omega, q2, q3, fun l' h1 => hno l' (by omega), fun l' h1 => q4 l' (by omega)⟩) ⟨(enc (wend w e) : Int), g, LW, BZ, T', S', o4, l4, b4, wy_tr, wy_st, fun j hj => ?_⟩
      have := q5 j (by omega)
      rw [Nat.zero_add] at this
      exact this
    · simp only [kI_some, kL_some, kR_some, kV_none, ne_eq, not_true_eq_false, not_false_eq_true, true_implies, false_implies, implies_true, true_and, and_true, ab_z01, or_true, true_or, reduceCtorEq, Option.some.injEq, Int.reduceEq, Int.reduceNe, Int.reduceLT, Int.reduceLE, Int.reduceNeg, Int.reduceAdd, Int.reduceSub, Int.reduceMul, Nat.reduceEqDiff, Nat.reduceAdd, Nat.reduceMul, Int.reduceToNat, ↓reduceIte]
      refine ⟨i3 (by omega) (by omega), ?_⟩
      refine ih _ (i : Int) T' S' (X4.tr (xt_wy (Or.inr (Or.inr (Or.inr (Or.inl rfl)))) (Or.inr (Or.inr (Or.inr (Or.inr rfl)))))) o4 l4 b4 wy_tr wy_st p4 (fun l' hl => ?_)
      by_cases z : l'.length = i
      · exact q l' z
      · exact hno l' (by omega)
set_option maxRecDepth 100000 in
set_option maxHeartbeats 4000000 in
theorem cc_vstepAt {d : Nat} {h : AbH} {K : Option AbV → AbH → Prop} {v ql qb tr st : Nat} {n : Int} {l : List Nat} {j : Int} (c : WR h v ql qb tr st n l) (hn : (n = -1 ∧ l = []) ∨ (n = (l.length : Int) ∧ l.length ≤ 3)) (hj : 0 ≤ j) (kk : K (some (vI (if n ≤ j then -1 else ((l.getD j.toNat 0 : Nat) : Int)))) h) : Vm (d + 2) m_X6_stepAt [vR (some v), vI j] h K := by
  obtain ⟨E, g, LW, BZ, T, S, c1, c2, c3, c4, c5, c6⟩ := c
  have hb : -1 ≤ n ∧ n ≤ 3 := by rcases hn with z | z <;> omega
  refine Vm.intro rfl (Nat.le_of_ble_eq_true rfl) (fun _ => B_X6_stepAt_0 ?_)
  refine gI_i c1 rfl ⟨i3 (by omega) (by omega), ?_⟩
  refine cc_within (fun q => ?_) (fun q => ?_) <;> simp only [kI_some, kL_some, kR_some, kV_none, ne_eq, not_true_eq_false, not_false_eq_true, true_implies, false_implies, implies_true, true_and, and_true, ab_z01, or_true, true_or, reduceCtorEq, Option.some.injEq, Int.reduceEq, Int.reduceNe, Int.reduceLT, Int.reduceLE, Int.reduceNeg, Int.reduceAdd, Int.reduceSub, Int.reduceMul, Nat.reduceEqDiff, Nat.reduceAdd, Nat.reduceMul, Int.reduceToNat, ↓reduceIte]
  · refine gR_i c1 rfl (nI_i c5 ⟨fun z => absurd z (by omega), fun _ => ?_⟩)
    refine gR_i c1 rfl (lI_i c5 (by omega) (by omega) ?_)
    rw [if_neg (by omega)] at kk
    rw [c6 j.toNat (by rcases hn with z | z <;> omega)]
    exact kk
  · rw [if_pos (by omega)] at kk
    exact kk
