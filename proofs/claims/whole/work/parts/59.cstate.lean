/-! the whole state of the class -/
def QA (A : Nat → Nat) (q : Nat) : Prop := ∃ i, i < 19 ∧ q = A i
def PQ (A : Nat → Nat) (M : Nat → Prop) (q : Nat) : Prop := QA A q ∨ M q
def AI (A : Nat → Nat) : Prop := ∀ i j, i < 19 → j < 19 → A i = A j → i = j
def SA (A : Nat → Nat) (I : List Nat) (q : Nat) : Prop := ∃ i, i ∈ I ∧ q = A i
theorem sa_not {A : Nat → Nat} {I : List Nat} {i : Nat} (hA : AI A) (hI : ∀ j ∈ I, j < 19) (hi : i < 19) (hn : i ∉ I) : ¬ SA A I (A i) := by
  rintro ⟨j, hj, e⟩
  exact hn (by rw [hA i j hi (hI j hj) e]; exact hj)
theorem sa_qa {A : Nat → Nat} {I : List Nat} (hI : ∀ j ∈ I, j < 19) : ∀ q, SA A I q → QA A q := fun q ⟨i, hi, e⟩ => ⟨i, hI i hi, e⟩
def oF (A : Nat → Nat) (nw : Nat) : List AbV := [vR (some nw), vR (some (A 1)), vR (some (A 3)), vR (some (A 4)), vR (some (A 6)), vR (some (A 9)), vR (some (A 14))]
def S0 (A : Nat → Nat) (M : Nat → Prop) (h : AbH) : Prop := AI A ∧ (∀ i, i < 19 → ¬ M (A i)) ∧ (∀ q, PQ A M q → ¬ ab_new h q) ∧ ∀ j, j < 4 → ∃ b, hpB h b j
def S1 (A : Nat → Nat) (M : Nat → Prop) (h : AbH) (w : Nat → Int) : Prop := ∃ nw, hpO h (A 0) = some (8, oF A nw) ∧ CW (PQ A M) h nw w ∧ dg w
def S2 (A : Nat → Nat) (M : Nat → Prop) (h : AbH) (u : Nat) (pr : Nat → Nat → Int) : Prop := ∃ g, PS h (A 1) (A 2) g u ∧ u ≤ 8 ∧ (∀ i, i < u → ∃ b, g i = some b ∧ CW (PQ A M) h b (pr i) ∧ dg (pr i)) ∧ ∀ i, i < 8 → ∀ x, g i = some x → ¬ PQ A M x ∧ ∃ fs, hpO h x = some (7, fs)
def S3 (A : Nat → Nat) (M : Nat → Prop) (h : AbH) (kv : Nat → Option (Nat → Int)) : Prop := ∃ sv, hpR h (A 3) = some (7, 2, sv) ∧ ∀ k, k < 2 → (∀ v, kv k = some v → ∃ b, sv k = some b ∧ CW (PQ A M) h b v ∧ dg v) ∧ (kv k = none → sv k = none)
def S4 (A : Nat → Nat) (h : AbH) (T : Nat → Int) (L : Nat) : Prop := txV T L ∧ ∃ c s e k, TX h (A 4) (A 5) T L c s e k
def S5 (A : Nat → Nat) (h : AbH) : Prop := ∃ n F G, WN h (A 6) (A 7) (A 8) n F G
def S6 (A : Nat → Nat) (h : AbH) : Prop := ∃ I F L Y, LY h (A 9) (A 10) (A 11) (A 12) (A 13) I F L Y
def S7 (A : Nat → Nat) (h : AbH) : Prop := ∃ n l, WR h (A 14) (A 15) (A 16) (A 17) (A 18) n l
def CS (A : Nat → Nat) (M : Nat → Prop) (h : AbH) (w : Nat → Int) (u : Nat) (pr : Nat → Nat → Int) (kv : Nat → Option (Nat → Int)) (T : Nat → Int) (L : Nat) : Prop := S0 A M h ∧ S1 A M h w ∧ S2 A M h u pr ∧ S3 A M h kv ∧ S4 A h T L ∧ S5 A h ∧ S6 A h ∧ S7 A h
theorem CW.ob {P : Nat → Prop} {h : AbH} {a : Nat} {w : Nat → Int} (c : CW P h a w) : ∃ al ao af ae, hpO h a = some (7, [vR (some al), vR (some ao), vR (some af), vR (some ae), vI (w 0), vI (w 1)]) := by
  obtain ⟨-, al, ao, af, ae, g1, g2, ff, fl, c1, -⟩ := c
  exact ⟨al, ao, af, ae, c1.1⟩
theorem CW.np {P : Nat → Prop} {h : AbH} {a : Nat} {w : Nat → Int} (c : CW P h a w) : ¬ P a := by
  obtain ⟨-, al, ao, af, ae, g1, g2, ff, fl, c1, pa, -⟩ := c
  exact pa
theorem S0.mv {A : Nat → Nat} {M F : Nat → Prop} {h h' : AbH} (s : S0 A M h) (x : Xt F h h') : S0 A M h' := ⟨s.1, s.2.1, fun q z n => s.2.2.1 q z (x.new n), by rw [x.2.2.2.1]; exact s.2.2.2⟩
theorem S1.mv {A : Nat → Nat} {M F : Nat → Prop} {h h' : AbH} {w : Nat → Int} (s : S1 A M h w) (x : Xt F h h') (hF : ∀ q, F q → PQ A M q) (n0 : ¬ F (A 0)) : S1 A M h' w := by
  obtain ⟨nw, a1, a2, a3⟩ := s
  exact ⟨nw, x.O n0 a1, a2.mv (x.mono hF), a3⟩
theorem S2.mv {A : Nat → Nat} {M F : Nat → Prop} {h h' : AbH} {u : Nat} {pr : Nat → Nat → Int} (s : S2 A M h u pr) (x : Xt F h h') (hF : ∀ q, F q → PQ A M q) (n1 : ¬ F (A 1)) (n2 : ¬ F (A 2)) : S2 A M h' u pr := by
  obtain ⟨g, a1, a2, a3, a4⟩ := s
  refine ⟨g, ⟨x.O n1 a1.1, x.R n2 a1.2⟩, a2, fun i hi => ?_, fun i hi y hy => ?_⟩
  · obtain ⟨b, b1, b2, b3⟩ := a3 i hi
    exact ⟨b, b1, b2.mv (x.mono hF), b3⟩
  · obtain ⟨q1, fs, q2⟩ := a4 i hi y hy
    exact ⟨q1, fs, x.O (fun z => q1 (hF _ z)) q2⟩
theorem S3.mv {A : Nat → Nat} {M F : Nat → Prop} {h h' : AbH} {kv : Nat → Option (Nat → Int)} (s : S3 A M h kv) (x : Xt F h h') (hF : ∀ q, F q → PQ A M q) (n3 : ¬ F (A 3)) : S3 A M h' kv := by
  obtain ⟨sv, a1, a2⟩ := s
  refine ⟨sv, x.R n3 a1, fun k hk => ⟨fun v hv => ?_, (a2 k hk).2⟩⟩
  obtain ⟨b, b1, b2, b3⟩ := (a2 k hk).1 v hv
  exact ⟨b, b1, b2.mv (x.mono hF), b3⟩
theorem S4.mv {A : Nat → Nat} {F : Nat → Prop} {h h' : AbH} {T : Nat → Int} {L : Nat} (s : S4 A h T L) (x : Xt F h h') (n4 : ¬ F (A 4)) (n5 : ¬ F (A 5)) : S4 A h' T L := by
  obtain ⟨a1, c, s, e, k, a2⟩ := s
  exact ⟨a1, c, s, e, k, a2.mv x n4 n5⟩
theorem S5.mv {A : Nat → Nat} {F : Nat → Prop} {h h' : AbH} (s : S5 A h) (x : Xt F h h') (n6 : ¬ F (A 6)) (n7 : ¬ F (A 7)) (n8 : ¬ F (A 8)) : S5 A h' := by
  obtain ⟨n, F, G, a⟩ := s
  exact ⟨n, F, G, a.mv x n6 n7 n8⟩
theorem S6.mv {A : Nat → Nat} {F : Nat → Prop} {h h' : AbH} (s : S6 A h) (x : Xt F h h') (n9 : ¬ F (A 9)) (n10 : ¬ F (A 10)) (n11 : ¬ F (A 11)) (n12 : ¬ F (A 12)) (n13 : ¬ F (A 13)) : S6 A h' := by
  obtain ⟨I, F, L, Y, a⟩ := s
  refine ⟨I, F, L, Y, a.mv x n9 (fun q z => ?_)⟩
  rcases z with z | z | z | z <;> rw [z] <;> assumption
theorem S7.mv {A : Nat → Nat} {F : Nat → Prop} {h h' : AbH} (s : S7 A h) (x : Xt F h h') (n14 : ¬ F (A 14)) (n15 : ¬ F (A 15)) (n16 : ¬ F (A 16)) (n17 : ¬ F (A 17)) (n18 : ¬ F (A 18)) : S7 A h' := by
  obtain ⟨n, l, a⟩ := s
  refine ⟨n, l, a.mv x (fun q z => ?_)⟩
  rcases z with z | z | z | z | z <;> rw [z] <;> assumption
/-- what changes outside the class leaves its state -/
theorem CS.mv {A : Nat → Nat} {M F : Nat → Prop} {h h' : AbH} {w : Nat → Int} {u : Nat} {pr : Nat → Nat → Int} {kv : Nat → Option (Nat → Int)} {T : Nat → Int} {L : Nat} (c : CS A M h w u pr kv T L) (x : Xt F h h') (hF : ∀ q, F q → PQ A M q) (hn : ∀ i, i < 19 → ¬ F (A i)) : CS A M h' w u pr kv T L := by
  obtain ⟨s0, s1, s2, s3, s4, s5, s6, s7⟩ := c
  exact ⟨s0.mv x, s1.mv x hF (hn _ (by decide)), s2.mv x hF (hn _ (by decide)) (hn _ (by decide)), s3.mv x hF (hn _ (by decide)), s4.mv x (hn _ (by decide)) (hn _ (by decide)), s5.mv x (hn _ (by decide)) (hn _ (by decide)) (hn _ (by decide)), s6.mv x (hn _ (by decide)) (hn _ (by decide)) (hn _ (by decide)) (hn _ (by decide)) (hn _ (by decide)), s7.mv x (hn _ (by decide)) (hn _ (by decide)) (hn _ (by decide)) (hn _ (by decide)) (hn _ (by decide))⟩
/-- the state but for the parts at I -/
theorem w3_sa {A : Nat → Nat} : ∀ q, W3 (A 6) (A 7) (A 8) q → SA A [6, 7, 8] q := fun q h => by
  rcases h with h | h | h
  · exact ⟨6, by decide, h⟩
  · exact ⟨7, by decide, h⟩
  · exact ⟨8, by decide, h⟩
theorem y7_sa {A : Nat → Nat} : ∀ q, Y7 (A 6) (A 7) (A 8) (A 10) (A 11) (A 12) (A 13) q → SA A [6, 7, 8, 10, 11, 12, 13] q := fun q h => by
  rcases h with (h | h | h) | (h | h | h | h)
  · exact ⟨6, by decide, h⟩
  · exact ⟨7, by decide, h⟩
  · exact ⟨8, by decide, h⟩
  · exact ⟨10, by decide, h⟩
  · exact ⟨11, by decide, h⟩
  · exact ⟨12, by decide, h⟩
  · exact ⟨13, by decide, h⟩
theorem v5_sa {A : Nat → Nat} : ∀ q, V5 (A 14) (A 15) (A 16) (A 17) (A 18) q → SA A [14, 15, 16, 17, 18] q := fun q h => by
  rcases h with h | h | h | h | h
  · exact ⟨14, by decide, h⟩
  · exact ⟨15, by decide, h⟩
  · exact ⟨16, by decide, h⟩
  · exact ⟨17, by decide, h⟩
  · exact ⟨18, by decide, h⟩
theorem CS.win {A : Nat → Nat} {M : Nat → Prop} {h h' : AbH} {w : Nat → Int} {u : Nat} {pr : Nat → Nat → Int} {kv : Nat → Option (Nat → Int)} {T : Nat → Int} {L : Nat} (c : CS A M h w u pr kv T L) (x : Xt (SA A [6, 7, 8]) h h') (s5' : S5 A h') : CS A M h' w u pr kv T L := by
  obtain ⟨s0, s1, s2, s3, s4, s5, s6, s7⟩ := c
  have hF : ∀ q, SA A [6, 7, 8] q → PQ A M q := fun q z => Or.inl (sa_qa (by decide) q z)
  have nn : ∀ i, i < 19 → i ∉ [6, 7, 8] → ¬ SA A [6, 7, 8] (A i) := fun i hi hn => sa_not s0.1 (by decide) hi hn
  exact ⟨s0.mv x, s1.mv x hF (nn _ (by decide) (by decide)), s2.mv x hF (nn _ (by decide) (by decide)) (nn _ (by decide) (by decide)), s3.mv x hF (nn _ (by decide) (by decide)), s4.mv x (nn _ (by decide) (by decide)) (nn _ (by decide) (by decide)), s5', s6.mv x (nn _ (by decide) (by decide)) (nn _ (by decide) (by decide)) (nn _ (by decide) (by decide)) (nn _ (by decide) (by decide)) (nn _ (by decide) (by decide)), s7.mv x (nn _ (by decide) (by decide)) (nn _ (by decide) (by decide)) (nn _ (by decide) (by decide)) (nn _ (by decide) (by decide)) (nn _ (by decide) (by decide))⟩
theorem CS.lay {A : Nat → Nat} {M : Nat → Prop} {h h' : AbH} {w : Nat → Int} {u : Nat} {pr : Nat → Nat → Int} {kv : Nat → Option (Nat → Int)} {T : Nat → Int} {L : Nat} (c : CS A M h w u pr kv T L) (x : Xt (SA A [6, 7, 8, 10, 11, 12, 13]) h h') (s5' : S5 A h') (s6' : S6 A h') : CS A M h' w u pr kv T L := by
  obtain ⟨s0, s1, s2, s3, s4, s5, s6, s7⟩ := c
  have hF : ∀ q, SA A [6, 7, 8, 10, 11, 12, 13] q → PQ A M q := fun q z => Or.inl (sa_qa (by decide) q z)
  have nn : ∀ i, i < 19 → i ∉ [6, 7, 8, 10, 11, 12, 13] → ¬ SA A [6, 7, 8, 10, 11, 12, 13] (A i) := fun i hi hn => sa_not s0.1 (by decide) hi hn
  exact ⟨s0.mv x, s1.mv x hF (nn _ (by decide) (by decide)), s2.mv x hF (nn _ (by decide) (by decide)) (nn _ (by decide) (by decide)), s3.mv x hF (nn _ (by decide) (by decide)), s4.mv x (nn _ (by decide) (by decide)) (nn _ (by decide) (by decide)), s5', s6', s7.mv x (nn _ (by decide) (by decide)) (nn _ (by decide) (by decide)) (nn _ (by decide) (by decide)) (nn _ (by decide) (by decide)) (nn _ (by decide) (by decide))⟩
theorem CS.way {A : Nat → Nat} {M : Nat → Prop} {h h' : AbH} {w : Nat → Int} {u : Nat} {pr : Nat → Nat → Int} {kv : Nat → Option (Nat → Int)} {T : Nat → Int} {L : Nat} (c : CS A M h w u pr kv T L) (x : Xt (SA A [14, 15, 16, 17, 18]) h h') (s7' : S7 A h') : CS A M h' w u pr kv T L := by
  obtain ⟨s0, s1, s2, s3, s4, s5, s6, s7⟩ := c
  have hF : ∀ q, SA A [14, 15, 16, 17, 18] q → PQ A M q := fun q z => Or.inl (sa_qa (by decide) q z)
  have nn : ∀ i, i < 19 → i ∉ [14, 15, 16, 17, 18] → ¬ SA A [14, 15, 16, 17, 18] (A i) := fun i hi hn => sa_not s0.1 (by decide) hi hn
  exact ⟨s0.mv x, s1.mv x hF (nn _ (by decide) (by decide)), s2.mv x hF (nn _ (by decide) (by decide)) (nn _ (by decide) (by decide)), s3.mv x hF (nn _ (by decide) (by decide)), s4.mv x (nn _ (by decide) (by decide)) (nn _ (by decide) (by decide)), s5.mv x (nn _ (by decide) (by decide)) (nn _ (by decide) (by decide)) (nn _ (by decide) (by decide)), s6.mv x (nn _ (by decide) (by decide)) (nn _ (by decide) (by decide)) (nn _ (by decide) (by decide)) (nn _ (by decide) (by decide)) (nn _ (by decide) (by decide)), s7'⟩
