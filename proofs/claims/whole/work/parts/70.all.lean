/-! the law, from its beginning -/
theorem CW.up {P Q : Nat → Prop} {h : AbH} {a : Nat} {w : Nat → Int} (c : CW P h a w) (hq : ∀ q, Q q → P q ∨ ab_new h q) : CW Q h a w := by
  have k : ∀ q, ¬ P q → ¬ ab_new h q → ¬ Q q := fun q h1 h2 z => by
    rcases hq q z with y | y
    · exact h1 y
    · exact h2 y
  obtain ⟨hw, al, ao, af, ae, g1, g2, ff, fl, ⟨c1, c2, c3, c4, c5, c6, c7, c8⟩, p1, p2, p3, p4, p5⟩ := c
  refine ⟨hw, al, ao, af, ae, g1, g2, ff, fl, ⟨c1, c2, c3, c4, c5, fun i hi => ⟨fun z => ?_, (c6 i hi).2⟩, fun i hi => ⟨fun z => ?_, (c7 i hi).2⟩, c8⟩, k _ p1 (exO c1), k _ p2 (exR c2), k _ p3 (exR c3), k _ p4 (exI c4), k _ p5 (exI c5)⟩
  · obtain ⟨b, b1, b2, b3⟩ := (c6 i hi).1 z
    exact ⟨b, b1, k _ b2 (exO b3), b3⟩
  · obtain ⟨b, b1, b2, b3⟩ := (c7 i hi).1 z
    exact ⟨b, b1, k _ b2 (exO b3), b3⟩
theorem CS.up {A : Nat → Nat} {M : Nat → Prop} {h h' : AbH} {w : Nat → Int} {u : Nat} {pr : Nat → Nat → Int} {kv : Nat → Option (Nat → Int)} {T : Nat → Int} {L : Nat} (c : CS A NF h w u pr kv T L) (hM : ∀ q, M q → ab_new h q) (x : Xt NF h h') (hE : ∀ q, M q → ¬ ab_new h' q) : CS A M h' w u pr kv T L := by
  have hq : ∀ q, PQ A M q → PQ A NF q ∨ ab_new h q := fun q z => by
    rcases z with z | z
    · exact Or.inl (Or.inl z)
    · exact Or.inr (hM q z)
  have nf : ∀ q, NF q → PQ A M q := fun q z => absurd z id
  have ni : ∀ q, ¬ NF q := fun _ z => z
  obtain ⟨s0, ⟨nw, o1, cw, hdg⟩, ⟨g, ps, u8, gr, gx⟩, ⟨sv, sv1, sv2⟩, s4, s5, s6, s7⟩ := c
  refine ⟨⟨s0.1, fun i hi z => s0.2.2.1 (A i) (Or.inl ⟨i, hi, rfl⟩) (hM _ z), fun q z n => ?_, by rw [x.2.2.2.1]; exact s0.2.2.2⟩, ⟨nw, x.O (ni _) o1, (cw.up hq).mv (x.mono nf), hdg⟩, ⟨g, ⟨x.O (ni _) ps.1, x.R (ni _) ps.2⟩, u8, fun i hi => ?_, fun i hi y hy => ?_⟩, ⟨sv, x.R (ni _) sv1, fun k hk => ⟨fun v hv => ?_, (sv2 k hk).2⟩⟩, s4.mv x (ni _) (ni _), s5.mv x (ni _) (ni _) (ni _), s6.mv x (ni _) (ni _) (ni _) (ni _) (ni _), s7.mv x (ni _) (ni _) (ni _) (ni _) (ni _)⟩
  · rcases z with z | z
    · exact s0.2.2.1 q (Or.inl z) (x.new n)
    · exact hE q z n
  · obtain ⟨b, b1, b2, b3⟩ := gr i hi
    exact ⟨b, b1, (b2.up hq).mv (x.mono nf), b3⟩
  · obtain ⟨q1, fs, q2⟩ := gx i hi y hy
    refine ⟨fun z => ?_, fs, x.O (ni _) q2⟩
    rcases hq y z with z | z
    · exact q1 z
    · exact exO q2 z
  · obtain ⟨b, b1, b2, b3⟩ := (sv2 k hk).1 v hv
    exact ⟨b, b1, (b2.up hq).mv (x.mono nf), b3⟩
set_option maxRecDepth 100000 in
set_option maxHeartbeats 4000000 in
theorem law_all {d N b : Nat} {g : Nat → Int} {h : AbH} {K : Option AbV → AbH → Prop} (sx : hpX h b = some (N, g)) (hg : ∀ j, in32 (g j)) (hN : N ≤ 3584) (hB : ∀ j, j < 4 → ∃ b, hpB h b j) (kk : ∀ h, K (some (vI 1)) h) : Vx (d + 13) m_L_law 600000 7302250 0 [some (vR (some b))] [] h K := by
  refine B_L_law_0 ?_
  intro q1 n1 h2 e2
  subst e2
  refine cp_init sO_s hB (fun h5 A a0 cs x5 _ => ?_)
  simp only [kI_some, kL_some, kR_some, kV_none, ne_eq, not_true_eq_false, not_false_eq_true, true_implies, false_implies, implies_true, true_and, and_true, ab_z01, or_true, true_or, reduceCtorEq, Option.some.injEq, Int.reduceEq, Int.reduceNe, Int.reduceLT, Int.reduceLE, Int.reduceNeg, Int.reduceAdd, Int.reduceSub, Int.reduceMul, Nat.reduceEqDiff, Nat.reduceAdd, Nat.reduceMul, Int.reduceToNat, ↓reduceIte]
  intro q6 n6 h7 e7
  subst e7
  refine ci_model n6 (fun h10 ad ar hA mc r0 r2 r3 wd hM x10 => ?_)
  simp only [kI_some, kL_some, kR_some, kV_none, ne_eq, not_true_eq_false, not_false_eq_true, true_implies, false_implies, implies_true, true_and, and_true, ab_z01, or_true, true_or, reduceCtorEq, Option.some.injEq, Int.reduceEq, Int.reduceNe, Int.reduceLT, Int.reduceLE, Int.reduceNeg, Int.reduceAdd, Int.reduceSub, Int.reduceMul, Nat.reduceEqDiff, Nat.reduceAdd, Nat.reduceMul, Int.reduceToNat, ↓reduceIte]
  have hE : ∀ q, MM q6 ad q → ¬ ab_new h10 q := by
    obtain ⟨co, c0, c2, c3, c7, c12, c13, c14, c16, c17, c18, c19, c20, c21⟩ := mc
    rintro q (e | ⟨i, hi, e⟩)
    · rw [e]; exact exO co
    · rw [e]
      have hi : i = 0 ∨ i = 2 ∨ i = 3 ∨ i = 7 ∨ i = 12 ∨ i = 13 ∨ i = 14 ∨ i = 16 ∨ i = 17 ∨ i = 18 ∨ i = 19 ∨ i = 20 ∨ i = 21 := by simpa [mLs] using hi
      rcases hi with z | z | z | z | z | z | z | z | z | z | z | z | z <;> rw [z]
      · exact exI c0
      · exact exZ c2
      · exact exI c3
      · exact exZ c7
      · exact exI c12
      · exact exI c13
      · exact exI c14
      · exact exI c16
      · exact exI c17
      · exact exI c18
      · exact exI c19
      · exact exI c20
      · exact exI c21
  have ek : kvM ar = fun _ => none := by
    funext k
    unfold kvM
    rw [r2, if_pos rfl]
  have rl : RLm A q6 ad h10 := ⟨fun _ => 0, ar, 0, 0, mc, rfl, rfl, wd, by
    rw [ek, r0, r3]
    exact (cs _).up hM x10 hE⟩
  have sx10 : hpX h10 b = some (N, g) := by
    rw [x10.2.1, x5.2.1]
    exact sx
  have := law_loop (d := d) (K := K) hA hg hN kk 512 0 599962 7296268 h10 (by omega) (by decide) (by decide) rl sx10
  rw [a0] at this
  exact this
