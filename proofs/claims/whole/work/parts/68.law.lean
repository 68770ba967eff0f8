/-! class and model side by side -/
theorem lX_i {h : AbH} {a n : Nat} {i : Int} {g : Nat → Int} {f : Int → Prop} (ho : hpX h a = some (n, g)) (h1 : 0 ≤ i) (h2 : i < (n : Int)) (hf : f (g i.toNat)) : wpLX h (some a) i f := ⟨a, n, g, rfl, ho, h1, h2, hf⟩
theorem nX_i {h : AbH} {a n : Nat} {g : Nat → Int} {f : Int → Prop} (ho : hpX h a = some (n, g)) (hf : f (n : Int)) : wpNX h (some a) f := ⟨a, n, g, rfl, ho, hf⟩
theorem via_mH {d : Nat} {md : AbM} {av : List AbV} {h : AbH} {m : Nat} {ad : Nat → Nat} {sc : Nat → Int} {ar : Nat → Nat → Int} {K : Option AbV → AbH → Prop} (c : MC h m ad sc ar) (v : Vm d md av (mH h m ad sc ar) K) : Vm d md av h K := by
  rw [mH_fold c] at v
  exact v
def prM (R : Nat → Int) (i : Nat) : Nat → Int := fun j => R (394 + 394 * i + j)
def kvM (ar : Nat → Nat → Int) (k : Nat) : Option (Nat → Int) := if ar 2 k = 0 then none else some (fun j => ar 0 (3546 + 394 * k + j))
theorem CW_cg {P : Nat → Prop} {h : AbH} {a : Nat} {w w' : Nat → Int} (c : CW P h a w) (e : ∀ j, j < 394 → w' j = w j) : CW P h a w' := by
  obtain ⟨hw, al, ao, af, ae, g1, g2, ff, fl, ⟨c1, c2, c3, c4, c5, c6, c7, c8⟩, p⟩ := c
  have e0 : nl w' = nl w := by unfold nl; rw [e 0 (by decide)]
  have e1 : no w' = no w := by unfold no; rw [e 1 (by decide)]
  refine ⟨wV.cg e hw, al, ao, af, ae, g1, g2, ff, fl, ⟨by rw [e 0 (by decide), e 1 (by decide)]; exact c1, c2, c3, c4, c5, fun k hk => ?_, fun k hk => ?_, fun q hq => ?_⟩, p⟩
  · rw [e0]
    have : lwF w' k = lwF w k := by
      unfold lwF lw
      rw [e _ (by omega), e _ (by omega), e _ (by omega), e _ (by omega), e _ (by omega), e _ (by omega)]
    rw [this]
    exact c6 k hk
  · rw [e1]
    refine ⟨fun z => ?_, (c7 k hk).2⟩
    rw [loF_eq (hw.2.2.2.2 k z) (fun j hj => e _ (by omega))]
    exact (c7 k hk).1 z
  · rw [e _ (by omega), e _ (by omega)]
    exact c8 q hq
theorem dg_cg {w w' : Nat → Int} (c : dg w) (e : ∀ j, j < 394 → w' j = w j) : dg w' := fun t ht => by
  rw [e _ (by omega)]
  exact c t ht
theorem CS.cg {A : Nat → Nat} {M : Nat → Prop} {h : AbH} {w w' : Nat → Int} {u : Nat} {pr pr' : Nat → Nat → Int} {kv kv' : Nat → Option (Nat → Int)} {T : Nat → Int} {L : Nat} (c : CS A M h w u pr kv T L) (hw : ∀ j, j < 394 → w' j = w j) (hp : ∀ i, i < u → ∀ j, j < 394 → pr' i j = pr i j) (hk : ∀ k, k < 2 → (kv k = none ∧ kv' k = none) ∨ ∃ v v', kv k = some v ∧ kv' k = some v' ∧ ∀ j, j < 394 → v' j = v j) : CS A M h w' u pr' kv' T L := by
  obtain ⟨s0, ⟨nw, o1, cw, hdg⟩, ⟨g, ps, u8, gr, gx⟩, ⟨sv, sv1, sv2⟩, s4⟩ := c
  refine ⟨s0, ⟨nw, o1, CW_cg cw hw, dg_cg hdg hw⟩, ⟨g, ps, u8, fun i hi => ?_, gx⟩, ⟨sv, sv1, fun k hk2 => ?_⟩, s4⟩
  · obtain ⟨b, b1, b2, b3⟩ := gr i hi
    exact ⟨b, b1, CW_cg b2 (hp i hi), dg_cg b3 (hp i hi)⟩
  · rcases hk k hk2 with ⟨z1, z2⟩ | ⟨v, v', z1, z2, z3⟩
    · refine ⟨fun v hv => ?_, fun _ => (sv2 k hk2).2 z1⟩
      rw [z2] at hv
      cases hv
    · refine ⟨fun x hx => ?_, fun hx => ?_⟩
      · rw [z2] at hx
        have hx : v' = x := by simpa using hx
        obtain ⟨b, b1, b2, b3⟩ := (sv2 k hk2).1 v z1
        rw [← hx]
        exact ⟨b, b1, CW_cg b2 z3, dg_cg b3 z3⟩
      · rw [z2] at hx
        cases hx
def RLm (A : Nat → Nat) (m : Nat) (ad : Nat → Nat) (h : AbH) : Prop := ∃ sc ar u L, MC h m ad sc ar ∧ sc 1 = ((u : Nat) : Int) ∧ sc 4 = ((L : Nat) : Int) ∧ wds ar ∧ CS A (MM m ad) h (ar 0) u (prM (ar 0)) (kvM ar) (ar 3) L
theorem RL_mk {A : Nat → Nat} {m : Nat} {ad : Nat → Nat} {h : AbH} {w : Nat → Int} {u : Nat} {pr : Nat → Nat → Int} {kv : Nat → Option (Nat → Int)} {T : Nat → Int} {L : Nat} {sc : Nat → Int} {ar : Nat → Nat → Int} (hA : mA ad) (c : CS A (MM m ad) h w u pr kv T L) (h1 : sc 1 = (u : Int)) (h4 : sc 4 = (L : Int)) (hT : ar 3 = T) (hwd : wds ar) (hw : ∀ j, j < 394 → ar 0 j = w j) (hp : ∀ i, i < u → ∀ j, j < 394 → ar 0 (394 + 394 * i + j) = pr i j) (hk : ∀ k, k < 2 → (kv k = none ∧ ar 2 k = 0) ∨ ∃ v, kv k = some v ∧ ar 2 k ≠ 0 ∧ ∀ j, j < 394 → ar 0 (3546 + 394 * k + j) = v j) : RLm A m ad (mH h m ad sc ar) := by
  refine ⟨sc, ar, u, L, mH_MC hA, h1, h4, hwd, ?_⟩
  rw [hT]
  refine CS.cg (c.mv xt_mH (fun q z => Or.inr z) (fun i hi => c.1.2.1 i hi)) hw hp (fun k hk2 => ?_)
  unfold kvM
  rcases hk k hk2 with ⟨z1, z2⟩ | ⟨v, z1, z2, z3⟩
  · exact Or.inl ⟨z1, by rw [if_pos z2]⟩
  · exact Or.inr ⟨v, _, z1, by rw [if_neg z2], z3⟩
theorem kvM_hk {ar : Nat → Nat → Int} {k : Nat} : (kvM ar k = none ∧ ar 2 k = 0) ∨ ∃ v, kvM ar k = some v ∧ ar 2 k ≠ 0 ∧ ∀ j, j < 394 → ar 0 (3546 + 394 * k + j) = v j := by
  unfold kvM
  by_cases z : ar 2 k = 0
  · exact Or.inl ⟨by rw [if_pos z], z⟩
  · exact Or.inr ⟨_, by rw [if_neg z], z, fun _ _ => rfl⟩
/-- the model's state is seen as before -/
theorem RL_q {A : Nat → Nat} {m : Nat} {ad : Nat → Nat} {h : AbH} {u L : Nat} {sc sc' : Nat → Int} {ar ar' : Nat → Nat → Int} (hA : mA ad) (c : CS A (MM m ad) h (ar 0) u (prM (ar 0)) (kvM ar) (ar 3) L) (h1 : sc 1 = (u : Int)) (h4 : sc 4 = (L : Int)) (hwd : wds ar) (e1 : sc' 1 = sc 1) (e4 : sc' 4 = sc 4) (f0 : ar' 0 = ar 0) (f2 : ar' 2 = ar 2) (f3 : ar' 3 = ar 3) (f13 : ar' 13 = ar 13) : RLm A m ad (mH h m ad sc' ar') :=
  RL_mk hA c (e1.trans h1) (e4.trans h4) f3 (fun x j hx hj => by rw [f13]; exact hwd x j hx hj) (fun j _ => by rw [f0]) (fun i _ j _ => by rw [f0]; rfl) (fun k _ => by rw [f0, f2]; exact kvM_hk)
theorem shP_at {R : Nat → Int} {j : Nat} : shP R j = if 394 ≤ j ∧ j < 3152 then R (j + 394) else R j := rfl
theorem kpR_at8 {R : Nat → Int} {u j : Nat} (h : u = 8) : kpR R u j = if 3152 ≤ j ∧ j < 3152 + 394 then shP R (0 + (j - 3152)) else shP R j := by
  unfold kpR
  rw [if_pos h]
  rfl
theorem kpR_atn {R : Nat → Int} {u j : Nat} (h : ¬ u = 8) : kpR R u j = if 394 + 394 * u ≤ j ∧ j < 394 + 394 * u + 394 then R (0 + (j - (394 + 394 * u))) else R j := by
  unfold kpR
  rw [if_neg h]
  rfl
theorem kpR_lo {R : Nat → Int} {u j : Nat} (hj : j < 394) : kpR R u j = R j := by
  by_cases z : u = 8
  · rw [kpR_at8 z, if_neg (by omega), shP_at, if_neg (by omega)]
  · rw [kpR_atn z, if_neg (by omega)]
theorem kpR_hi {R : Nat → Int} {u j : Nat} (hu : u ≤ 8) (hj : 3546 ≤ j) : kpR R u j = R j := by
  by_cases z : u = 8
  · rw [kpR_at8 z, if_neg (by omega), shP_at, if_neg (by omega)]
  · rw [kpR_atn z, if_neg (by omega)]
theorem kpR_pr {R : Nat → Int} {u i j : Nat} (hu : u ≤ 8) (hi : i < kpU u) (hj : j < 394) : kpR R u (394 + 394 * i + j) = prA (prM R) u R i j := by
  unfold kpU at hi
  unfold prA
  by_cases z : u = 8
  · rw [if_pos z] at hi
    rw [kpR_at8 z, if_neg (show ¬ u < 8 by omega)]
    by_cases z2 : i = 7
    · rw [if_pos z2, if_pos (by omega), shP_at, if_neg (by omega), show 0 + (394 + 394 * i + j - 3152) = j by omega]
    · rw [if_neg z2, if_neg (by omega), shP_at, if_pos (by omega)]
      show _ = R (394 + 394 * (i + 1) + j)
      rw [show 394 + 394 * i + j + 394 = 394 + 394 * (i + 1) + j by omega]
  · rw [if_neg z] at hi
    rw [kpR_atn z, if_pos (show u < 8 by omega)]
    by_cases z2 : i = u
    · rw [if_pos z2, if_pos (by omega), show 0 + (394 + 394 * i + j - (394 + 394 * u)) = j by omega]
    · rw [if_neg z2, if_neg (by omega)]
      rfl
/-- behind an act -/
theorem RL_act {A : Nat → Nat} {m : Nat} {ad : Nat → Nat} {h : AbH} {u L : Nat} {sc sc' : Nat → Int} {ar ar' : Nat → Nat → Int} {W : Nat → Int} (hA : mA ad) (hu8 : u ≤ 8) (c : CS A (MM m ad) h W (kpU u) (prA (prM (ar 0)) u (ar 0)) (kvM ar) (ar 3) L) (h4 : sc 4 = (L : Int)) (hwd : wds ar) (e1 : sc' 1 = (kpU u : Int)) (e4 : sc' 4 = sc 4) (f0 : ∀ j, j < 394 → ar' 0 j = W j) (f0' : ∀ j, 394 ≤ j → ar' 0 j = kpR (ar 0) u j) (f2 : ar' 2 = ar 2) (f3 : ar' 3 = ar 3) (f13 : ar' 13 = ar 13) : RLm A m ad (mH h m ad sc' ar') :=
  RL_mk hA c e1 (e4.trans h4) f3 (fun x j hx hj => by rw [f13]; exact hwd x j hx hj) f0 (fun i hi j hj => by rw [f0' _ (by omega), kpR_pr hu8 hi hj]) (fun k _ => by
    rw [f2]
    rcases kvM_hk (ar := ar) (k := k) with z | ⟨v, z1, z2, z3⟩
    · exact Or.inl z
    · exact Or.inr ⟨v, z1, z2, fun j hj => by rw [f0' _ (by omega), kpR_hi hu8 (by omega), z3 j hj]⟩)
/-! rows that agree make rows that agree -/
theorem ins_cg {R R' : Nat → Int} {n p : Nat} {f : Nat → Int} (e : ∀ j, j < 394 → R' j = R j) : ∀ j, j < 394 → insW R' n p f j = insW R n p f j := by
  intro j hj
  rw [insW_app, insW_app, shL_app, shL_app, e 0 (by decide), e j hj, e (j - 6) (by omega)]
theorem del_cg {R R' : Nat → Int} {k : Nat} (hb : R 0 ≤ 16) (e : ∀ j, j < 394 → R' j = R j) : ∀ j, j < 394 → delW R' k j = delW R k j := by
  intro j hj
  rw [del_app, del_app, e 0 (by decide), e j hj]
  by_cases z : 2 + 6 * k ≤ j ∧ (j : Int) < 2 + 6 * (R 0 - 1)
  · rw [if_pos z, if_pos z, e (j + 6) (by omega)]
  · rw [if_neg z, if_neg z]
theorem delO_cg {R R' : Nat → Int} {k : Nat} (hb : R 1 ≤ 12) (e : ∀ j, j < 394 → R' j = R j) : ∀ j, j < 394 → delO R' k j = delO R k j := by
  intro j hj
  rw [delO_app, delO_app, e 1 (by decide), e j hj]
  by_cases z : 130 + 22 * k ≤ j ∧ (j : Int) < 130 + 22 * (R 1 - 1)
  · rw [if_pos z, if_pos z, e (j + 22) (by omega)]
  · rw [if_neg z, if_neg z]
theorem set_cg {R R' : Nat → Int} {f t a b : Int} (e : ∀ j, j < 394 → R' j = R j) : ∀ j, j < 394 → setM R' f t a b j = setM R f t a b j := by
  intro j hj
  unfold setM
  rw [vu_app, vu_app, vu_app, vu_app, e j hj]
theorem lnd_cg {R R' : Nat → Int} {k : Nat} {f t : Int} {l : List Int} (hk : k < 12) (e : ∀ j, j < 394 → R' j = R j) : ∀ j, j < 394 → lndW R' k f t l j = lndW R k f t l j := by
  intro j hj
  have e1 : no R' = no R := by unfold no; rw [e 1 (by decide)]
  rw [lndW_app, lndW_app, e1, e 1 (by decide), e j hj]
  by_cases z : 130 + 22 * no R + 2 ≤ j ∧ j < 130 + 22 * no R + 12
  · rw [e (130 + 22 * k + (j - (130 + 22 * no R))) (by omega)]
  · rw [if_neg z, if_neg z]
theorem mtN_cg {R R' : Nat → Int} (e : ∀ j, j < 394 → R' j = R j) : ∀ n, n ≤ 16 → mtN R' n = mtN R n
  | 0, _ => rfl
  | n + 1, hn => by
    have := mtN_cg e n (by omega)
    unfold mtN
    rw [this, e _ (by omega)]
