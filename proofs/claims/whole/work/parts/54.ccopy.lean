theorem CT.cg {P : Nat → Prop} {h : AbH} {w : Nat → Int} {g1 g2 k1 k2 : Nat → Option Nat} {ff fl kf kl : Nat → Int} (c : CT P h w g1 g2 ff fl) (e1 : ∀ j, j < 16 → k1 j = g1 j) (e2 : ∀ j, j < 12 → k2 j = g2 j) (e3 : ∀ j, j < 16 → kf j = ff j ∧ kl j = fl j) : CT P h w k1 k2 kf kl := by
  refine ⟨fun k hk => ?_, fun k hk => ?_, fun p hp => ?_⟩
  · rw [e1 k hk]; exact c.1 k hk
  · rw [e2 k hk]; exact c.2.1 k hk
  · rw [(e3 p hp).1, (e3 p hp).2]; exact c.2.2 p hp
set_option maxRecDepth 100000 in
set_option maxHeartbeats 4000000 in
theorem cm_copy {d : Nat} {h : AbH} {K : Option AbV → AbH → Prop} {P : Nat → Prop} {a : Nat} {w : Nat → Int} (cw : CW P h a w) (kk : ∀ h' a', MW P h h' a' w → Xt (ab_new h) h h' → K (some (vR (some a'))) h') : Vm (d + 3) m_X8_copy [vR (some a)] h K := by
  have hw := cw.1
  refine Vm.intro rfl (Nat.le_of_ble_eq_true rfl) (fun _ => B_X8_copy_0 ?_)
  intro b nb h1 e1
  subst e1
  have X1 : Xt (ab_new h) h (hsO h b (7, [vR none, vR none, vR none, vR none, vI 0, vI 0])) := Xt.rf.nO nb
  refine cm_init (h0 := h) (P := ab_new h) (by rw [hO_O, if_pos rfl]) nb X1 (fun h2 bl bo bf be gf gl c2 n X2 hgf => ?_)
  simp only [kI_some, kL_some, kR_some, kV_none, ne_eq, not_true_eq_false, not_false_eq_true, true_implies, false_implies, implies_true, true_and, and_true, ab_z01, or_true, true_or, reduceCtorEq, Option.some.injEq, Int.reduceEq, Int.reduceNe, Int.reduceLT, Int.reduceLE, Int.reduceNeg, Int.reduceAdd, Int.reduceSub, Int.reduceMul, Nat.reduceEqDiff, Nat.reduceAdd, Nat.reduceMul, Int.reduceToNat, ↓reduceIte]
  obtain ⟨-, al, ao, af, ae, g1, g2, ff, fl, cx0, pa, pal, pao, paf, pae⟩ := id cw
  have src : ∀ h', Xt (ab_new h) h h' → CX P h' a w al ao af ae g1 g2 ff fl := by
    intro h' x
    obtain ⟨c1, c2, c3, c4, c5, c6, c7, c8⟩ := cx0
    refine ⟨x.wk.O pa c1, x.wk.R pal c2, x.wk.R pao c3, x.wk.I paf c4, x.wk.I pae c5, fun k hk => ⟨fun z => ?_, (c6 k hk).2⟩, fun k hk => ⟨fun z => ?_, (c7 k hk).2⟩, c8⟩
    · obtain ⟨b, b1, b2, b3⟩ := (c6 k hk).1 z
      exact ⟨b, b1, b2, x.wk.O b2 b3⟩
    · obtain ⟨b, b1, b2, b3⟩ := (c7 k hk).1 z
      exact ⟨b, b1, b2, x.wk.O b2 b3⟩
  -- the meetings
  have F62 : ∀ h1 k1 k2 kf kl, C5 h1 b bl bo bf be k1 k2 kf kl 0 0 → Xt (ab_new h) h h1 → (∀ j, j < 16 → k1 j = g1 j) → (∀ j, j < 12 → k2 j = g2 j) → Vx (d + 3) m_X8_copy 0 0 62 [some (vR (some a)), some (vR (some b)), some (vI 0)] [] h1 K := by
    intro h1 k1 k2 kf kl c X e1 e2
    refine lp_up (P := fun i => ∀ h1 kf kl, C5 h1 b bl bo bf be k1 k2 kf kl 0 0 → Xt (ab_new h) h h1 → (∀ j, j < i → kf j = ff j ∧ kl j = fl j) → Vx (d + 3) m_X8_copy 0 0 62 [some (vR (some a)), some (vR (some b)), some (vI (i : Int))] [] h1 K) (n := 16) ?_ ?_ 0 (by omega) h1 kf kl c X (fun j hj => absurd hj (by omega))
    · intro h1 kf kl c X e3
      refine B_X8_copy_62 ⟨fun _ => ?_, fun z => absurd (by decide) z⟩
      have s := src h1 X
      refine gI_i s.1 rfl (p_i c.1 (by show 4 < 6; decide) ?_)
      have c' := c.s0 (w 0) 0
      have X' := X.nO (c := (7, [vR (some bl), vR (some bo), vR (some bf), vR (some be), vI (w 0), vI 0])) nb
      have s' := src _ X'
      refine gI_i s'.1 rfl (p_i c'.1 (by show 5 < 6; decide) ?_)
      have c'' := c'.s0 (w 0) (w 1)
      have X'' := X'.nO (c := (7, [vR (some bl), vR (some bo), vR (some bf), vR (some be), vI (w 0), vI (w 1)])) nb
      exact kk _ b ⟨hw, bl, bo, bf, be, k1, k2, kf, kl, c'', (src _ X'').ct.cg e1 e2 e3, n⟩ X''
    · intro i hi ih h1 kf kl c X e3
      refine B_X8_copy_62 ⟨fun z => absurd z (by omega), fun _ => ?_⟩
      have s := src h1 X
      refine gR_i s.1 rfl (lI_i s.2.2.2.1 (by omega) (by omega) (gR_i s.1 rfl (lI_i s.2.2.2.2.1 (by omega) (by omega) ?_)))
      rw [Int.toNat_natCast]
      refine cv_i c.1 (cr_setMeeting c n.2.2 hi (fun c' => ?_))
      simp only [kI_some, kL_some, kR_some, kV_none, ne_eq, not_true_eq_false, not_false_eq_true, true_implies, false_implies, implies_true, true_and, and_true, ab_z01, or_true, true_or, reduceCtorEq, Option.some.injEq, Int.reduceEq, Int.reduceNe, Int.reduceLT, Int.reduceLE, Int.reduceNeg, Int.reduceAdd, Int.reduceSub, Int.reduceMul, Nat.reduceEqDiff, Nat.reduceAdd, Nat.reduceMul, Int.reduceToNat, ↓reduceIte]
      refine ⟨i3 (by omega) (by omega), ih _ _ _ c' ((X.nI n.1.2.2.2.1).nI n.1.2.2.2.2) (fun j hj => ?_)⟩
      by_cases e : j = i
      · rw [e, vu_same, vu_same]
        exact ⟨rfl, rfl⟩
      · rw [vu_ne e, vu_ne e]
        exact e3 j (by omega)
  have F36 : ∀ h1 k1, C5 h1 b bl bo bf be k1 (fun _ => none) gf gl 0 0 → Xt (ab_new h) h h1 → (∀ j, j < 16 → k1 j = g1 j) → Vx (d + 3) m_X8_copy 0 0 36 [some (vR (some a)), some (vR (some b)), some (vI 0)] [] h1 K := by
    intro h1 k1 c X e1
    refine lp_up (P := fun i => ∀ h1 k2, C5 h1 b bl bo bf be k1 k2 gf gl 0 0 → Xt (ab_new h) h h1 → (∀ j, j < i → k2 j = g2 j) → Vx (d + 3) m_X8_copy 0 0 36 [some (vR (some a)), some (vR (some b)), some (vI (i : Int))] [] h1 K) (n := 12) ?_ ?_ 0 (by omega) h1 (fun _ => none) c X (fun j hj => absurd hj (by omega))
    · intro h1 k2 c X e2
      exact B_X8_copy_36 ⟨fun _ => F62 h1 k1 k2 gf gl c X e1 e2, fun z => absurd (by decide) z⟩
    · intro i hi ih h1 k2 c X e2
      refine B_X8_copy_36 ⟨fun z => absurd z (by omega), fun _ => ?_⟩
      have s := src h1 X
      refine gR_i c.1 rfl (gR_i s.1 rfl (lR_i s.2.2.1 (by omega) (by omega) ?_))
      rw [Int.toNat_natCast]
      refine sR_i c.2.2.1 (by omega) (by omega) (fun b' eb => ?_) ?_
      · by_cases z : i < no w
        · obtain ⟨b'', y1, y2, y3⟩ := (s.ct.2.1 i hi).1 z
          rw [y1] at eb
          have eb : b'' = b' := by simpa using eb
          rw [← eb]
          exact ⟨_, y3⟩
        · rw [(s.ct.2.1 i hi).2 z] at eb
          cases eb
      · rw [Int.toNat_natCast]
        refine ⟨i3 (by omega) (by omega), ih _ _ (c.s2 n.2.1 _) (X.nR n.1.2.2.1) (fun j hj => ?_)⟩
        by_cases e : j = i
        · rw [e, vu_same]
        · rw [vu_ne e]
          exact e2 j (by omega)
  refine lp_up (P := fun i => ∀ h1 k1, C5 h1 b bl bo bf be k1 (fun _ => none) gf gl 0 0 → Xt (ab_new h) h h1 → (∀ j, j < i → k1 j = g1 j) → Vx (d + 3) m_X8_copy 0 0 10 [some (vR (some a)), some (vR (some b)), some (vI (i : Int))] [] h1 K) (n := 16) ?_ ?_ 0 (by omega) h2 (fun _ => none) c2 X2 (fun j hj => absurd hj (by omega))
  · intro h1 k1 c X e1
    exact B_X8_copy_10 ⟨fun _ => F36 h1 k1 c X e1, fun z => absurd (by decide) z⟩
  · intro i hi ih h1 k1 c X e1
    refine B_X8_copy_10 ⟨fun z => absurd z (by omega), fun _ => ?_⟩
    have s := src h1 X
    refine gR_i c.1 rfl (gR_i s.1 rfl (lR_i s.2.1 (by omega) (by omega) ?_))
    rw [Int.toNat_natCast]
    refine sR_i c.2.1 (by omega) (by omega) (fun b' eb => ?_) ?_
    · by_cases z : i < nl w
      · obtain ⟨b'', y1, y2, y3⟩ := (s.ct.1 i hi).1 z
        rw [y1] at eb
        have eb : b'' = b' := by simpa using eb
        rw [← eb]
        exact ⟨_, y3⟩
      · rw [(s.ct.1 i hi).2 z] at eb
        cases eb
    · rw [Int.toNat_natCast]
      refine ⟨i3 (by omega) (by omega), ih _ _ (c.s1 n.2.1 _) (X.nR n.1.2.1) (fun j hj => ?_)⟩
      by_cases e : j = i
      · rw [e, vu_same]
      · rw [vu_ne e]
        exact e1 j (by omega)
/-! the past -/
def PS (h : AbH) (ap aq : Nat) (g : Nat → Option Nat) (n : Nat) : Prop := hpO h ap = some (3, [vR (some aq), vI (n : Int)]) ∧ hpR h aq = some (7, 8, g)
def P2 (ap aq : Nat) (q : Nat) : Prop := q = ap ∨ q = aq
/-- the row of worlds behind one more -/
def pAdd (g : Nat → Option Nat) (n : Nat) (b : Nat) (i : Nat) : Option Nat := if n < 8 then (if i = n then some b else g i) else (if i = 7 then some b else g (i + 1))
set_option maxRecDepth 100000 in
set_option maxHeartbeats 4000000 in
theorem cm_padd {d : Nat} {h : AbH} {K : Option AbV → AbH → Prop} {ap aq b n : Nat} {g : Nat → Option Nat} (c : PS h ap aq g n) (hn : n ≤ 8) (hb : ∃ fs, hpO h b = some (7, fs)) (hg : ∀ i, i < 8 → ∀ x, g i = some x → ∃ fs, hpO h x = some (7, fs)) (kk : ∀ h' g', PS h' ap aq g' (if n < 8 then n + 1 else 8) → (∀ i, i < 8 → g' i = pAdd g n b i) → Xt (P2 ap aq) h h' → (∀ q fs, hpO h q = some (7, fs) → hpO h' q = some (7, fs)) → K none h') : Vm (d + 1) m_X4_add [vR (some ap), vR (some b)] h K := by
  obtain ⟨c1, c2⟩ := id c
  have keep : ∀ (h1 : AbH) fs0 fs1, hpO h1 ap = some (3, fs0) → ∀ q fs, hpO h1 q = some (7, fs) → hpO (hsO h1 ap (3, fs1)) q = some (7, fs) := fun h1 fs0 fs1 e q fs hq => by
    rw [hO_O]
    by_cases z : q = ap
    · rw [z, e] at hq
      exact absurd hq (by simp)
    · rw [if_neg z]; exact hq
  refine Vm.intro rfl (Nat.le_of_ble_eq_true rfl) (fun _ => B_X4_add_0 ?_)
  refine gI_i c1 rfl (gR_i c1 rfl (nR_i c2 ⟨fun q => ?_, fun q => ?_⟩))
  · refine gI_i c1 rfl ⟨fun z => absurd z (by omega), fun _ => ?_⟩
    refine gR_i c1 rfl (gI_i c1 rfl (sR_i c2 (by omega) (by omega) (fun b' e => by have e : b = b' := by simpa using e
                                                                                   rw [← e]; exact hb) ?_))
    rw [Int.toNat_natCast]
    have o1 : hpO (hsR h aq (7, 8, va_up g n (some b))) ap = some (3, [vR (some aq), vI (n : Int)]) := c1
    refine gI_i o1 rfl ⟨i3 (by omega) (by omega), p_i o1 (by show 1 < 2; decide) ?_⟩
    rw [if_pos (by omega)] at kk
    refine kk _ (va_up g n (some b)) ⟨?_, ?_⟩ (fun i hi => ?_) ((xt_R (Or.inl (Or.inr rfl))).tr (xt_O (Or.inl (Or.inl rfl)))) (fun q fs hq => keep _ _ _ o1 q fs hq)
    · rw [hO_O, if_pos rfl]
      rfl
    · show hpR (hsR h aq (7, 8, va_up g n (some b))) aq = _
      rw [hR_R, if_pos rfl]
    · unfold pAdd
      rw [if_pos (by omega)]
      by_cases e : i = n
      · rw [e, vu_same, if_pos rfl]
      · rw [vu_ne e, if_neg e]
  · have hn8 : n = 8 := by omega
    rw [if_neg (by omega)] at kk
    have key := lp_up (P := fun i => 1 ≤ i → ∀ g', (∀ j, j < 8 → g' j = if j + 1 < i then g (j + 1) else g j) → Vx (d + 1) m_X4_add 0 0 14 [some (vR (some ap)), some (vR (some b)), some (vI (i : Int))] [] (hsR h aq (7, 8, g')) K) (n := 8) ?_ ?_ 1 (by omega) (Nat.le_refl _) g (fun j hj => by rw [if_neg (by omega)])
    · rw [hsR_self c2] at key
      exact key
    · intro _ g' hg'
      have o1 : hpO (hsR h aq (7, 8, g')) ap = some (3, [vR (some aq), vI (n : Int)]) := c1
      have o2 : hpR (hsR h aq (7, 8, g')) aq = some (7, 8, g') := by rw [hR_R, if_pos rfl]
      refine B_X4_add_14 (gR_i o1 rfl (nR_i o2 ⟨fun _ => ?_, fun z => absurd (by decide) z⟩))
      refine gR_i o1 rfl (nR_i o2 ⟨i3 (by decide) (by decide), p_i o1 (by show 1 < 2; decide) ?_⟩)
      have o3 : hpO (hsO (hsR h aq (7, 8, g')) ap (3, [vR (some aq), vI (n : Int)].set 1 (vI ((8 : Nat) - 1 : Int)))) ap = some (3, [vR (some aq), vI 7]) := by rw [hO_O, if_pos rfl]; rfl
      refine gI_i o3 rfl ⟨fun z => absurd z (by decide), fun _ => ?_⟩
      refine gR_i o3 rfl (gI_i o3 rfl (sR_i (show hpR (hsO (hsR h aq (7, 8, g')) ap _) aq = _ from o2) (by decide) (by decide) (fun b' e => ?_) ?_))
      · have e : b = b' := by simpa using e
        obtain ⟨fs, hb⟩ := hb
        rw [← e]
        exact ⟨fs, keep _ _ _ o1 b fs hb⟩
      rw [show ((7 : Int)).toNat = 7 from rfl]
      refine gI_i (show hpO (hsR (hsO (hsR h aq (7, 8, g')) ap _) aq _) ap = _ from o3) rfl ⟨i3 (by decide) (by decide), p_i (show hpO (hsR (hsO (hsR h aq (7, 8, g')) ap _) aq _) ap = _ from o3) (by show 1 < 2; decide) ?_⟩
      refine kk _ (va_up g' 7 (some b)) ⟨?_, ?_⟩ (fun i hi => ?_) ((((xt_R (Or.inl (Or.inr rfl))).tr (xt_O (Or.inl (Or.inl rfl)))).tr (xt_R (Or.inl (Or.inr rfl)))).tr (xt_O (Or.inl (Or.inl rfl)))) (fun q fs hq => keep _ _ _ (show hpO (hsR (hsO (hsR h aq (7, 8, g')) ap _) aq _) ap = _ from o3) q fs (keep _ _ _ o1 q fs hq))
      · rw [hO_O, if_pos rfl]
        rfl
      · show hpR (hsR (hsO (hsR h aq (7, 8, g')) ap _) aq (7, 8, va_up g' 7 (some b))) aq = _
        rw [hR_R, if_pos rfl]
      · unfold pAdd
        rw [if_neg (by omega)]
        by_cases e : i = 7
        · rw [e, vu_same, if_pos rfl]
        · rw [vu_ne e, if_neg e, hg' i hi, if_pos (by omega)]
    · intro i hi ih h1 g' hg'
      have o1 : hpO (hsR h aq (7, 8, g')) ap = some (3, [vR (some aq), vI (n : Int)]) := c1
      have o2 : hpR (hsR h aq (7, 8, g')) aq = some (7, 8, g') := by rw [hR_R, if_pos rfl]
      refine B_X4_add_14 (gR_i o1 rfl (nR_i o2 ⟨fun z => absurd z (by omega), fun _ => ?_⟩))
      refine gR_i o1 rfl ⟨i3 (by omega) (by omega), gR_i o1 rfl (lR_i o2 (by omega) (by omega) (sR_i o2 (by omega) (by omega) (fun x e => ?_) ?_))⟩
      · rw [Int.toNat_natCast, hg' i hi, if_neg (by omega)] at e
        exact hg i hi x e
      · rw [hsR_up, Int.toNat_natCast, show ((i : Int) - 1).toNat = i - 1 by omega]
        refine ⟨i3 (by omega) (by omega), ih (by omega) _ (fun j hj => ?_)⟩
        by_cases e : j = i - 1
        · rw [e, vu_same, if_pos (by omega), hg' i hi, if_neg (by omega), show i - 1 + 1 = i by omega]
        · rw [vu_ne e, hg' j hj]
          by_cases z : j + 1 < i
          · rw [if_pos z, if_pos (by omega)]
          · rw [if_neg z, if_neg (by omega)]
set_option maxRecDepth 100000 in
set_option maxHeartbeats 4000000 in
theorem cm_platest {d : Nat} {h : AbH} {K : Option AbV → AbH → Prop} {ap aq n : Nat} {g : Nat → Option Nat} (c : PS h ap aq g n) (hn : n ≤ 8) (kk : K (some (vR (if n = 0 then none else g (n - 1)))) h) : Vm (d + 2) m_X4_latest [vR (some ap)] h K := by
  obtain ⟨c1, c2⟩ := c
  refine Vm.intro rfl (Nat.le_of_ble_eq_true rfl) (fun _ => B_X4_latest_0 ?_)
  refine gI_i c1 rfl (gR_i c1 rfl (nR_i c2 ?_))
  refine cc_within (fun q => ?_) (fun q => ?_) <;> simp only [kI_some, kL_some, kR_some, kV_none, ne_eq, not_true_eq_false, not_false_eq_true, true_implies, false_implies, implies_true, true_and, and_true, ab_z01, or_true, true_or, reduceCtorEq, Option.some.injEq, Int.reduceEq, Int.reduceNe, Int.reduceLT, Int.reduceLE, Int.reduceNeg, Int.reduceAdd, Int.reduceSub, Int.reduceMul, Nat.reduceEqDiff, Nat.reduceAdd, Nat.reduceMul, Int.reduceToNat, ↓reduceIte]
  · rw [if_neg (by omega)] at kk
    refine gR_i c1 rfl (gI_i c1 rfl ⟨i3 (by omega) (by omega), lR_i c2 (by omega) (by omega) ?_⟩)
    rw [show ((n : Int) - 1).toNat = n - 1 by omega]
    exact kk
  · rw [if_pos (by omega)] at kk
    exact kk
set_option maxRecDepth 100000 in
set_option maxHeartbeats 4000000 in
theorem cm_pforget {d : Nat} {h : AbH} {K : Option AbV → AbH → Prop} {ap aq n : Nat} {g : Nat → Option Nat} (c : PS h ap aq g (n + 1)) (hn : n < 8) (kk : ∀ h', PS h' ap aq g n → Xt (P2 ap aq) h h' → (∀ q fs, hpO h q = some (7, fs) → hpO h' q = some (7, fs)) → K none h') : Vm (d + 1) m_X4_forgetLatest [vR (some ap)] h K := by
  obtain ⟨c1, c2⟩ := c
  refine Vm.intro rfl (Nat.le_of_ble_eq_true rfl) (fun _ => B_X4_forgetLatest_0 ?_)
  refine gI_i c1 rfl ⟨fun z => absurd z (by omega), fun _ => ?_⟩
  refine gI_i c1 rfl ⟨i3 (by omega) (by omega), p_i c1 (by show 1 < 2; decide) ?_⟩
  refine kk _ ⟨?_, c2⟩ (xt_O (Or.inl (Or.inl rfl))) (fun q fs hq => ?_)
  · rw [hO_O, if_pos rfl, show ((n + 1 : Nat) : Int) - 1 = (n : Int) by omega]
    rfl
  · rw [hO_O]
    by_cases z : q = ap
    · rw [z, c1] at hq
      exact absurd hq (by simp)
    · rw [if_neg z]; exact hq
set_option maxRecDepth 100000 in
set_option maxHeartbeats 4000000 in
theorem cm_pclear {d : Nat} {h : AbH} {K : Option AbV → AbH → Prop} {ap aq n : Nat} {g : Nat → Option Nat} (c : PS h ap aq g n) (kk : ∀ h', PS h' ap aq g 0 → Xt (P2 ap aq) h h' → (∀ q fs, hpO h q = some (7, fs) → hpO h' q = some (7, fs)) → K none h') : Vm (d + 1) m_X4_clear [vR (some ap)] h K := by
  obtain ⟨c1, c2⟩ := c
  refine Vm.intro rfl (Nat.le_of_ble_eq_true rfl) (fun _ => B_X4_clear_0 ?_)
  refine p_i c1 (by show 1 < 2; decide) ?_
  refine kk _ ⟨?_, c2⟩ (xt_O (Or.inl (Or.inl rfl))) (fun q fs hq => ?_)
  · rw [hO_O, if_pos rfl]
    rfl
  · rw [hO_O]
    by_cases z : q = ap
    · rw [z, c1] at hq
      exact absurd hq (by simp)
    · rw [if_neg z]; exact hq
