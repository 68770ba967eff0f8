/-! the law's loop -/
theorem both {a a' : Int} {X Y : Prop} (e : a = a') (x : X) : (a = a' → X) ∧ (¬ a = a' → Y) := ⟨fun _ => x, fun z => absurd e z⟩
theorem lawE_16 {w : Nat → Int} {t dd x y e z : Int} (h : lawE w t dd x y e z = none) : ¬ w 0 = 16 := by
  unfold lawE at h
  split at h
  · cases h
  · split at h
    · cases h
    · split at h
      · cases h
      · split at h
        · cases h
        · assumption
theorem meetE_b {f t a b : Int} (h : meetE f t a b = none) : (0 ≤ f ∧ f ≤ 3) ∧ (0 ≤ t ∧ t ≤ 3) := by
  unfold meetE at h
  split at h
  · cases h
  · rename_i q
    omega
theorem partE_b {w : Nat → Int} {f t : Int} (h : partE w f t = none) : (0 ≤ f ∧ f ≤ 3) ∧ (0 ≤ t ∧ t ≤ 3) := by
  unfold partE at h
  split at h
  · cases h
  · rename_i q
    omega
theorem lendE_b {w : Nat → Int} {k f t dd : Int} (h : lendE w k f t dd = none) : (0 ≤ k ∧ k < w 1) ∧ ¬ w 1 = 12 := by
  unfold lendE at h
  split at h
  · cases h
  · rename_i q
    split at h
    · cases h
    · split at h
      · cases h
      · split at h
        · cases h
        · rename_i q2
          exact ⟨by omega, q2⟩
theorem set_hi {R : Nat → Int} {f t a b : Int} (hf : 0 ≤ f ∧ f ≤ 3) (ht : 0 ≤ t ∧ t ≤ 3) {j : Nat} (hj : 394 ≤ j) : setM R f t a b j = R j := by
  unfold setM
  rw [vu_ne (by omega), vu_ne (by omega)]
set_option maxRecDepth 100000 in
set_option maxHeartbeats 4000000 in
theorem law_loop {d N b : Nat} {g : Nat → Int} {A : Nat → Nat} {m : Nat} {ad : Nat → Nat} {K : Option AbV → AbH → Prop} (hA : mA ad) (hg : ∀ j, in32 (g j)) (hN : N ≤ 3584) (kk : ∀ h, K (some (vI 1)) h) : ∀ k i bc bs h, N ≤ 7 * i + 7 * k + 6 → 29 * k ≤ bc → 210 * k ≤ bs → RLm A m ad h → hpX h b = some (N, g) → Vx (d + 13) m_L_law bc bs 18 [some (vR (some b)), some (vR (some (A 0))), some (vR (some m)), some (vI ((7 * i : Nat) : Int))] [] h K := by
  intro k
  induction k with
  | zero =>
    intro i bc bs h hk _ _ _ sx
    exact B_L_law_18 (nX_i sx ⟨i3 (by omega) (by omega), fun _ => kk h, fun z => absurd (by omega) z⟩)
  | succ k ih =>
    intro i bc bs h hk hbc hbs rl sx
    refine B_L_law_18 (nX_i sx ⟨i3 (by omega) (by omega), fun _ => kk h, fun hlt => ?_⟩)
    obtain ⟨X, hX⟩ : ∃ X : Int, X = ((7 * i : Nat) : Int) := ⟨_, rfl⟩
    rw [← hX] at hlt ⊢
    refine lX_i sx (by omega) (by omega) ?_
    obtain ⟨op, hop⟩ : ∃ op, op = g X.toNat := ⟨_, rfl⟩
    rw [← hop]
    have nxt : ∀ h' bc' bs', RLm A m ad h' → hpX h' b = some (N, g) → bc ≤ bc' + 29 → bs ≤ bs' + 210 → in32 (X + 7) ∧ Vx (d + 13) m_L_law bc' bs' 18 [some (vR (some b)), some (vR (some (A 0))), some (vR (some m)), some (vI (X + 7))] [] h' K := by
      intro h' bc' bs' rl' sx' h1 h2
      have := ih (i + 1) bc' bs' h' (by omega) (by omega) (by omega) rl' sx'
      rw [show ((7 * (i + 1) : Nat) : Int) = X + 7 by omega] at this
      exact ⟨i3 (by omega) (by omega), this⟩
    obtain ⟨sc, ar, u, L, mc, h1e, h4e, wd, cs⟩ := id rl
    obtain ⟨nw, o1, cw, hdg⟩ := id cs.2.1
    have hw := cw.1
    have u8 : u ≤ 8 := by obtain ⟨_, _, u8, _⟩ := cs.2.2.1; exact u8
    have hT := cs.2.2.2.2.1.1
    have nm : ∀ q, MM m ad q → ¬ QA A q := fun q z ⟨j, hj, e⟩ => cs.1.2.1 j hj (by rw [← e]; exact z)
    have same : RLm A m ad (mH h m ad sc ar) := RL_q hA cs h1e h4e wd rfl rfl rfl rfl rfl rfl
    have bw0 := hw.1.1
    have bw1 := hw.1.2
    have k0 := kpR_lo (R := ar 0) (u := u) (show 0 < 394 by decide)
    have k1 := kpR_lo (R := ar 0) (u := u) (show 1 < 394 by decide)
    have klo : ∀ j, j < 394 → kpR (ar 0) u j = ar 0 j := fun j hj => kpR_lo hj
    refine ⟨fun e => ?_, fun e => ?_, fun e => ?_, fun e => ?_, fun e => ?_, fun e => ?_, fun e => ?_, fun e => ?_, fun e => ?_, fun e => ?_, fun e => ?_, fun e => ?_, fun e => ?_, fun e => ?_, fun e => ?_, fun e => ?_, fun e => ?_, fun e => ?_, fun e => ?_, fun e => ?_, fun e => ?_, fun e => ?_, fun e => ?_, fun e => ?_, fun e => ?_⟩
    · -- type
      refine ⟨i3 (by omega) (by omega), lX_i sx (by omega) (by omega) ?_⟩
      have L2 := hT.1
      refine cv_i o1 (cp_type cs (fun q => ?_) (fun q hL => ?_) (fun q hL h1 c1 x1 => ?_))
      · rw [kI_some]
        refine ⟨i3 (by omega) (by omega), lX_i sx (by omega) (by omega) ?_⟩
        refine cv_i mc.1 (via_mH mc (mc_type hA (by omega) (fun _ => ?_) (fun z => absurd z q) (fun z => absurd z q)))
        rw [kI_some]
        exact both rfl (nxt _ _ _ same sx (by omega) (by omega))
      · rw [kI_some]
        refine ⟨i3 (by omega) (by omega), lX_i sx (by omega) (by omega) ?_⟩
        refine cv_i mc.1 (via_mH mc (mc_type hA (by omega) (fun z => absurd q z) (fun _ _ => ?_) (fun _ z => absurd z (by omega))))
        rw [kI_some]
        exact both rfl (nxt _ _ _ same sx (by omega) (by omega))
      · rw [kI_some]
        have sx1 : hpX h1 b = some (N, g) := by rw [x1.2.1]; exact sx
        have mc1 := mc.mv x1 nm
        refine ⟨i3 (by omega) (by omega), lX_i sx1 (by omega) (by omega) ?_⟩
        refine cv_i mc1.1 (via_mH mc1 (mc_type hA (by omega) (fun z => absurd q z) (fun _ z => absurd z (by omega)) (fun _ _ => ?_)))
        rw [kI_some]
        refine both (by rw [h4e]) (nxt _ _ _ ?_ sx1 (by omega) (by omega))
        refine RL_mk hA c1 (by rw [vu_ne (by decide)]; exact h1e) (by rw [vu_same]; omega) (by rw [vu_same, h4e, Int.toNat_natCast]) (fun x j hx hj => by rw [vu_ne (by decide)]; exact wd x j hx hj) (fun j _ => by rw [vu_ne (by decide)]) (fun i _ j _ => by rw [vu_ne (by decide)]; rfl) (fun k _ => by rw [vu_ne (by decide), vu_ne (by decide)]; exact kvM_hk)
    · -- erase
      refine cv_i o1 (cp_erase cs (fun h1 c1 x1 => ?_))
      rw [kI_some]
      have sx1 : hpX h1 b = some (N, g) := by rw [x1.2.1]; exact sx
      have mc1 := mc.mv x1 nm
      refine cv_i mc1.1 (via_mH mc1 (mc_erase hA ?_))
      rw [kI_some]
      refine both h4e.symm (nxt _ _ _ ?_ sx1 (by omega) (by omega))
      exact RL_mk hA c1 (by rw [vu_ne (by decide)]; exact h1e) (by rw [vu_same]; rfl) rfl wd (fun j _ => rfl) (fun i _ j _ => rfl) (fun k _ => kvM_hk)
    · -- fault
      refine ⟨by omega, by omega, ?_⟩
      refine cv_i o1 (cp_fault cs (fun s' c' ep h1 c1 x1 => ?_) (fun W' s' c' ep h1 c1 x1 => ?_))
      · rw [kI_some]
        have sx1 : hpX h1 b = some (N, g) := by rw [x1.2.1]; exact sx
        have mc1 := mc.mv x1 nm
        refine cv_i mc1.1 (via_mH mc1 (mc_fault hA hT h4e rfl wd hw (fun s2 c2 e2 sc' ar' E f0 => ?_) (fun W2 s2 c2 e2 => absurd (ep.symm.trans e2) (by intro z; cases z))))
        rw [kI_some]
        have es : s' = s2 := by
          have := ep.symm.trans e2
          cases this
          rfl
        exact both (by rw [es]) (nxt _ _ _ (RL_q hA c1 h1e h4e wd (E.1 1 (by decide)) (E.1 4 (by decide)) f0 (E.2 2 (by decide)) (E.2 3 (by decide)) (E.2 13 (by decide))) sx1 (by omega) (by omega))
      · rw [kI_some]
        have sx1 : hpX h1 b = some (N, g) := by rw [x1.2.1]; exact sx
        have mc1 := mc.mv x1 nm
        refine cv_i mc1.1 (via_mH mc1 (mc_fault hA hT h4e rfl wd hw (fun s2 c2 e2 => absurd (ep.symm.trans e2) (by intro z; cases z)) (fun W2 s2 c2 e2 sc' ar' E f0 => ?_)))
        rw [kI_some]
        exact both rfl (nxt _ _ _ (RL_q hA c1 h1e h4e wd (E.1 1 (by decide)) (E.1 4 (by decide)) f0 (E.2 2 (by decide)) (E.2 3 (by decide)) (E.2 13 (by decide))) sx1 (by omega) (by omega))
    · -- tell
      refine ⟨by omega, by omega, ?_⟩
      refine cv_i o1 (cp_tell cs (fun s' c' ep h1 c1 x1 => ?_) (fun W' s' c' ep h1 c1 x1 => ?_))
      · rw [kI_some]
        have sx1 : hpX h1 b = some (N, g) := by rw [x1.2.1]; exact sx
        have mc1 := mc.mv x1 nm
        refine cv_i mc1.1 (via_mH mc1 (mc_tell hA hT h4e rfl wd hw (fun s2 c2 e2 sc' ar' E f0 => ?_) (fun W2 s2 c2 e2 => absurd (ep.symm.trans e2) (by intro z; cases z))))
        rw [kI_some]
        exact both rfl (nxt _ _ _ (RL_q hA c1 h1e h4e wd (E.1 1 (by decide)) (E.1 4 (by decide)) f0 (E.2 2 (by decide)) (E.2 3 (by decide)) (E.2 13 (by decide))) sx1 (by omega) (by omega))
      · rw [kI_some]
        have sx1 : hpX h1 b = some (N, g) := by rw [x1.2.1]; exact sx
        have mc1 := mc.mv x1 nm
        refine cv_i mc1.1 (via_mH mc1 (mc_tell hA hT h4e rfl wd hw (fun s2 c2 e2 => absurd (ep.symm.trans e2) (by intro z; cases z)) (fun W2 s2 c2 e2 sc' ar' E f0 => ?_)))
        rw [kI_some]
        have ew : W' = W2 ∧ c' = c2 := by
          have := ep.symm.trans e2
          cases this
          exact ⟨rfl, rfl⟩
        have gdT := psT_gd hT hw ep
        refine both (by rw [ew.2]) (nxt _ _ _ ?_ sx1 (by omega) (by omega))
        refine RL_mk hA c1 (by rw [vu_same]; rfl) (by rw [vu_ne (by decide), vu_same]; rfl) (E.2 3 (by decide)) (fun x j hx hj => by rw [E.2 13 (by decide)]; exact wd x j hx hj) (fun j _ => by rw [f0, ← ew.1]) (fun i hi => absurd hi (Nat.not_lt_zero i)) (fun k _ => ?_)
        rw [E.2 2 (by decide), f0, ← ew.1]
        rcases kvM_hk (ar := ar) (k := k) with z | ⟨v, z1, z2, z3⟩
        · exact Or.inl z
        · exact Or.inr ⟨v, z1, z2, fun j hj => by rw [gdT.1 _ (by omega), z3 j hj]⟩
    · -- law
      refine ⟨i3 (by omega) (by omega), lX_i sx (by omega) (by omega) ?_⟩
      refine ⟨i3 (by omega) (by omega), lX_i sx (by omega) (by omega) ?_⟩
      refine ⟨i3 (by omega) (by omega), lX_i sx (by omega) (by omega) ?_⟩
      refine ⟨i3 (by omega) (by omega), lX_i sx (by omega) (by omega) ?_⟩
      refine ⟨i3 (by omega) (by omega), lX_i sx (by omega) (by omega) ?_⟩
      refine ⟨i3 (by omega) (by omega), lX_i sx (by omega) (by omega) ?_⟩
      refine ⟨by omega, by omega, ?_⟩
      refine cv_i o1 (cp_law cs (fun r hr => ?_) (fun hn h1 c1 x1 => ?_))
      · rw [kI_some]
        refine ⟨i3 (by omega) (by omega), lX_i sx (by omega) (by omega) ?_⟩
        refine ⟨i3 (by omega) (by omega), lX_i sx (by omega) (by omega) ?_⟩
        refine ⟨i3 (by omega) (by omega), lX_i sx (by omega) (by omega) ?_⟩
        refine ⟨i3 (by omega) (by omega), lX_i sx (by omega) (by omega) ?_⟩
        refine ⟨i3 (by omega) (by omega), lX_i sx (by omega) (by omega) ?_⟩
        refine ⟨i3 (by omega) (by omega), lX_i sx (by omega) (by omega) ?_⟩
        refine cv_i mc.1 (via_mH mc (mc_law hA hw h1e u8 (fun r' hr' => ?_) (fun hn => absurd (hr.symm.trans hn) (by intro z; cases z))))
        rw [kI_some]
        have er : r = r' := by
          have := hr.symm.trans hr'
          cases this
          rfl
        exact both er (nxt _ _ _ same sx (by omega) (by omega))
      · rw [kI_some]
        have sx1 : hpX h1 b = some (N, g) := by rw [x1.2.1]; exact sx
        have mc1 := mc.mv x1 nm
        refine ⟨i3 (by omega) (by omega), lX_i sx1 (by omega) (by omega) ?_⟩
        refine ⟨i3 (by omega) (by omega), lX_i sx1 (by omega) (by omega) ?_⟩
        refine ⟨i3 (by omega) (by omega), lX_i sx1 (by omega) (by omega) ?_⟩
        refine ⟨i3 (by omega) (by omega), lX_i sx1 (by omega) (by omega) ?_⟩
        refine ⟨i3 (by omega) (by omega), lX_i sx1 (by omega) (by omega) ?_⟩
        refine ⟨i3 (by omega) (by omega), lX_i sx1 (by omega) (by omega) ?_⟩
        refine cv_i mc1.1 (via_mH mc1 (mc_law hA hw h1e u8 (fun r' hr' => absurd (hn.symm.trans hr') (by intro z; cases z)) (fun _ => ?_)))
        rw [kI_some]
        exact both rfl (nxt _ _ _ (RL_act hA u8 c1 h4e wd vu_same (vu_ne (by decide)) (fun j hj => by rw [vu_same]; exact ins_cg klo j hj) (fun j hj => by rw [vu_same]; exact ins_out (posL_le _ _ _ _) (by have := hw.nlw.1; have := lawE_16 hn; omega) (Or.inr (by omega))) (vu_ne (by decide)) (vu_ne (by decide)) (vu_ne (by decide))) sx1 (by omega) (by omega))
    · -- repeal
      refine ⟨i3 (by omega) (by omega), lX_i sx (by omega) (by omega) ?_⟩
      refine ⟨by omega, by omega, ?_⟩
      refine cv_i o1 (cp_repeal cs (fun hr => ?_) (fun hn h1 c1 x1 => ?_))
      · rw [kI_some]
        refine ⟨i3 (by omega) (by omega), lX_i sx (by omega) (by omega) ?_⟩
        refine cv_i mc.1 (via_mH mc (mc_repeal hA hw h1e u8 (fun _ => ?_) (fun hn => absurd hn hr)))
        rw [kI_some]
        exact both rfl (nxt _ _ _ same sx (by omega) (by omega))
      · rw [kI_some]
        have sx1 : hpX h1 b = some (N, g) := by rw [x1.2.1]; exact sx
        have mc1 := mc.mv x1 nm
        refine ⟨i3 (by omega) (by omega), lX_i sx1 (by omega) (by omega) ?_⟩
        refine cv_i mc1.1 (via_mH mc1 (mc_repeal hA hw h1e u8 (fun hr => absurd hn hr) (fun _ => ?_)))
        rw [kI_some]
        exact both rfl (nxt _ _ _ (RL_act hA u8 c1 h4e wd vu_same (vu_ne (by decide)) (fun j hj => by rw [vu_same]; exact del_cg (by omega) klo j hj) (fun j hj => by rw [vu_same, del_app, if_neg (by omega), if_neg (by omega)]) (vu_ne (by decide)) (vu_ne (by decide)) (vu_ne (by decide))) sx1 (by omega) (by omega))
    · -- meet
      refine ⟨i3 (by omega) (by omega), lX_i sx (by omega) (by omega) ?_⟩
      refine ⟨i3 (by omega) (by omega), lX_i sx (by omega) (by omega) ?_⟩
      refine ⟨i3 (by omega) (by omega), lX_i sx (by omega) (by omega) ?_⟩
      refine ⟨i3 (by omega) (by omega), lX_i sx (by omega) (by omega) ?_⟩
      refine ⟨by omega, by omega, ?_⟩
      refine cv_i o1 (cp_meet cs (fun r hr => ?_) (fun hn h1 c1 x1 => ?_))
      · rw [kI_some]
        refine ⟨i3 (by omega) (by omega), lX_i sx (by omega) (by omega) ?_⟩
        refine ⟨i3 (by omega) (by omega), lX_i sx (by omega) (by omega) ?_⟩
        refine ⟨i3 (by omega) (by omega), lX_i sx (by omega) (by omega) ?_⟩
        refine ⟨i3 (by omega) (by omega), lX_i sx (by omega) (by omega) ?_⟩
        refine cv_i mc.1 (via_mH mc (mc_meet hA h1e u8 (fun r' hr' => ?_) (fun hn => absurd (hr.symm.trans hn) (by intro z; cases z))))
        rw [kI_some]
        have er : r = r' := by
          have := hr.symm.trans hr'
          cases this
          rfl
        exact both er (nxt _ _ _ same sx (by omega) (by omega))
      · rw [kI_some]
        have sx1 : hpX h1 b = some (N, g) := by rw [x1.2.1]; exact sx
        have mc1 := mc.mv x1 nm
        refine ⟨i3 (by omega) (by omega), lX_i sx1 (by omega) (by omega) ?_⟩
        refine ⟨i3 (by omega) (by omega), lX_i sx1 (by omega) (by omega) ?_⟩
        refine ⟨i3 (by omega) (by omega), lX_i sx1 (by omega) (by omega) ?_⟩
        refine ⟨i3 (by omega) (by omega), lX_i sx1 (by omega) (by omega) ?_⟩
        refine cv_i mc1.1 (via_mH mc1 (mc_meet hA h1e u8 (fun r' hr' => absurd (hn.symm.trans hr') (by intro z; cases z)) (fun _ => ?_)))
        rw [kI_some]
        exact both (mtN_cg (set_cg klo) 16 (by decide)).symm (nxt _ _ _ (RL_act hA u8 c1 h4e wd vu_same (vu_ne (by decide)) (fun j hj => by rw [vu_same]; exact set_cg klo j hj) (fun j hj => by rw [vu_same]; exact set_hi (meetE_b hn).1 (meetE_b hn).2 hj) (vu_ne (by decide)) (vu_ne (by decide)) (vu_ne (by decide))) sx1 (by omega) (by omega))
    · -- part
      refine ⟨i3 (by omega) (by omega), lX_i sx (by omega) (by omega) ?_⟩
      refine ⟨i3 (by omega) (by omega), lX_i sx (by omega) (by omega) ?_⟩
      refine ⟨by omega, by omega, ?_⟩
      refine cv_i o1 (cp_part cs (fun r hr => ?_) (fun hn h1 c1 x1 => ?_))
      · rw [kI_some]
        refine ⟨i3 (by omega) (by omega), lX_i sx (by omega) (by omega) ?_⟩
        refine ⟨i3 (by omega) (by omega), lX_i sx (by omega) (by omega) ?_⟩
        refine cv_i mc.1 (via_mH mc (mc_part hA h1e u8 (fun r' hr' => ?_) (fun hn => absurd (hr.symm.trans hn) (by intro z; cases z))))
        rw [kI_some]
        have er : r = r' := by
          have := hr.symm.trans hr'
          cases this
          rfl
        exact both er (nxt _ _ _ same sx (by omega) (by omega))
      · rw [kI_some]
        have sx1 : hpX h1 b = some (N, g) := by rw [x1.2.1]; exact sx
        have mc1 := mc.mv x1 nm
        refine ⟨i3 (by omega) (by omega), lX_i sx1 (by omega) (by omega) ?_⟩
        refine ⟨i3 (by omega) (by omega), lX_i sx1 (by omega) (by omega) ?_⟩
        refine cv_i mc1.1 (via_mH mc1 (mc_part hA h1e u8 (fun r' hr' => absurd (hn.symm.trans hr') (by intro z; cases z)) (fun _ => ?_)))
        rw [kI_some]
        exact both (mtN_cg (set_cg klo) 16 (by decide)).symm (nxt _ _ _ (RL_act hA u8 c1 h4e wd vu_same (vu_ne (by decide)) (fun j hj => by rw [vu_same]; exact set_cg klo j hj) (fun j hj => by rw [vu_same]; exact set_hi (partE_b hn).1 (partE_b hn).2 hj) (vu_ne (by decide)) (vu_ne (by decide)) (vu_ne (by decide))) sx1 (by omega) (by omega))
    · -- lend
      refine ⟨i3 (by omega) (by omega), lX_i sx (by omega) (by omega) ?_⟩
      refine ⟨i3 (by omega) (by omega), lX_i sx (by omega) (by omega) ?_⟩
      refine ⟨i3 (by omega) (by omega), lX_i sx (by omega) (by omega) ?_⟩
      refine ⟨i3 (by omega) (by omega), lX_i sx (by omega) (by omega) ?_⟩
      refine ⟨by omega, by omega, ?_⟩
      refine cv_i o1 (cp_lend cs (fun r hr => ?_) (fun hn h1 c1 x1 => ?_))
      · rw [kI_some]
        refine ⟨i3 (by omega) (by omega), lX_i sx (by omega) (by omega) ?_⟩
        refine ⟨i3 (by omega) (by omega), lX_i sx (by omega) (by omega) ?_⟩
        refine ⟨i3 (by omega) (by omega), lX_i sx (by omega) (by omega) ?_⟩
        refine ⟨i3 (by omega) (by omega), lX_i sx (by omega) (by omega) ?_⟩
        refine cv_i mc.1 (via_mH mc (mc_lend hA hw h1e u8 (fun r' hr' => ?_) (fun hn => absurd (hr.symm.trans hn) (by intro z; cases z))))
        rw [kI_some]
        have er : r = r' := by
          have := hr.symm.trans hr'
          cases this
          rfl
        exact both er (nxt _ _ _ same sx (by omega) (by omega))
      · rw [kI_some]
        have sx1 : hpX h1 b = some (N, g) := by rw [x1.2.1]; exact sx
        have mc1 := mc.mv x1 nm
        refine ⟨i3 (by omega) (by omega), lX_i sx1 (by omega) (by omega) ?_⟩
        refine ⟨i3 (by omega) (by omega), lX_i sx1 (by omega) (by omega) ?_⟩
        refine ⟨i3 (by omega) (by omega), lX_i sx1 (by omega) (by omega) ?_⟩
        refine ⟨i3 (by omega) (by omega), lX_i sx1 (by omega) (by omega) ?_⟩
        have hb := lendE_b hn
        have bV := borr_V (f := g (X + 2).toNat) (t := g (X + 3).toNat) (d := g (X + 4).toNat) hw.L (word_V (hw.2.2.2.2 (g (X + 1).toNat).toNat (by unfold no; omega)))
        have bl := bV.1
        have n1 : no (kpR (ar 0) u) = no (ar 0) := by unfold no; rw [k1]
        have n2 : no (ar 0) ≤ 11 := by unfold no; omega
        refine cv_i mc1.1 (via_mH mc1 (mc_lend hA hw h1e u8 (fun r' hr' => absurd (hn.symm.trans hr') (by intro z; cases z)) (fun _ sc' ar' E => ?_)))
        rw [kI_some]
        refine both rfl (nxt _ _ _ (RL_act hA u8 c1 h4e wd (by rw [E.1 1 (by decide), vu_same]) (by rw [E.1 4 (by decide), vu_ne (by decide)]) (fun j hj => by rw [E.2 0 (by decide), vu_same]; exact lnd_cg (by omega) klo j hj) (fun j hj => ?_) (by rw [E.2 2 (by decide), vu_ne (by decide)]) (by rw [E.2 3 (by decide), vu_ne (by decide)]) (by rw [E.2 13 (by decide), vu_ne (by decide)])) sx1 (by omega) (by omega))
        rw [E.2 0 (by decide), vu_same, lndW_app, n1, if_neg (by omega), if_neg (by omega), if_neg (by omega), if_neg (by omega), if_neg (by omega), if_neg (by omega)]
    · -- drop
      refine ⟨i3 (by omega) (by omega), lX_i sx (by omega) (by omega) ?_⟩
      refine ⟨by omega, by omega, ?_⟩
      refine cv_i o1 (cp_drop cs (fun hr => ?_) (fun hn h1 c1 x1 => ?_))
      · rw [kI_some]
        refine ⟨i3 (by omega) (by omega), lX_i sx (by omega) (by omega) ?_⟩
        refine cv_i mc.1 (via_mH mc (mc_drop hA hw h1e u8 (fun _ => ?_) (fun hn => absurd hn hr)))
        rw [kI_some]
        exact both rfl (nxt _ _ _ same sx (by omega) (by omega))
      · rw [kI_some]
        have sx1 : hpX h1 b = some (N, g) := by rw [x1.2.1]; exact sx
        have mc1 := mc.mv x1 nm
        refine ⟨i3 (by omega) (by omega), lX_i sx1 (by omega) (by omega) ?_⟩
        refine cv_i mc1.1 (via_mH mc1 (mc_drop hA hw h1e u8 (fun hr => absurd hn hr) (fun _ => ?_)))
        rw [kI_some]
        exact both rfl (nxt _ _ _ (RL_act hA u8 c1 h4e wd vu_same (vu_ne (by decide)) (fun j hj => by rw [vu_same]; exact delO_cg (by omega) klo j hj) (fun j hj => by rw [vu_same, delO_app, if_neg (by omega), if_neg (by omega)]) (vu_ne (by decide)) (vu_ne (by decide)) (vu_ne (by decide))) sx1 (by omega) (by omega))
    · -- undo
      refine cv_i o1 (cp_undo cs (fun hu => ?_) (fun hu h1 c1 x1 => ?_))
      · rw [kI_some]
        refine cv_i mc.1 (via_mH mc (mc_undo hA h1e u8 (fun _ => ?_) (fun z => absurd z (by omega))))
        rw [kI_some]
        exact both rfl (nxt _ _ _ same sx (by omega) (by omega))
      · rw [kI_some]
        have sx1 : hpX h1 b = some (N, g) := by rw [x1.2.1]; exact sx
        have mc1 := mc.mv x1 nm
        refine cv_i mc1.1 (via_mH mc1 (mc_undo hA h1e u8 (fun z => absurd z (by omega)) (fun _ => ?_)))
        rw [kI_some]
        refine both rfl (nxt _ _ _ ?_ sx1 (by omega) (by omega))
        have cat : ∀ f t j, cpR (ar 0) f t j = if t ≤ j ∧ j < t + 394 then ar 0 (f + (j - t)) else ar 0 j := fun _ _ _ => rfl
        refine RL_mk hA c1 vu_same (by rw [vu_ne (by decide)]; exact h4e) (by rw [vu_ne (by decide)]) (fun x j hx hj => by rw [vu_ne (by decide)]; exact wd x j hx hj) (fun j hj => ?_) (fun i hi j hj => ?_) (fun k hk2 => ?_)
        · rw [vu_same, cat, if_pos (by omega)]
          rfl
        · rw [vu_same, cat, if_neg (by omega)]
          rfl
        · rw [vu_same, vu_ne (by decide)]
          rcases kvM_hk (ar := ar) (k := k) with z | ⟨v, z1, z2, z3⟩
          · exact Or.inl z
          · exact Or.inr ⟨v, z1, z2, fun j hj => by rw [cat, if_neg (by omega), z3 j hj]⟩
    · -- keep
      refine ⟨i3 (by omega) (by omega), lX_i sx (by omega) (by omega) ?_⟩
      refine cv_i o1 (cp_keep cs (fun q => ?_) (fun q h1 c1 x1 => ?_))
      · rw [kI_some]
        refine ⟨i3 (by omega) (by omega), lX_i sx (by omega) (by omega) ?_⟩
        refine cv_i mc.1 (via_mH mc (mc_keep hA (fun _ => ?_) (fun z => absurd z q)))
        rw [kI_some]
        exact both rfl (nxt _ _ _ same sx (by omega) (by omega))
      · rw [kI_some]
        have sx1 : hpX h1 b = some (N, g) := by rw [x1.2.1]; exact sx
        have mc1 := mc.mv x1 nm
        refine ⟨i3 (by omega) (by omega), lX_i sx1 (by omega) (by omega) ?_⟩
        refine cv_i mc1.1 (via_mH mc1 (mc_keep hA (fun z => absurd q z) (fun _ => ?_)))
        rw [kI_some]
        refine both rfl (nxt _ _ _ ?_ sx1 (by omega) (by omega))
        obtain ⟨v, hv⟩ : ∃ v, v = (g (X + 1).toNat).toNat := ⟨_, rfl⟩
        rw [← hv] at c1 ⊢
        have cat : ∀ f t j, cpR (ar 0) f t j = if t ≤ j ∧ j < t + 394 then ar 0 (f + (j - t)) else ar 0 j := fun _ _ _ => rfl
        have y0 : va_up (va_up ar 0 (cpR (ar 0) 0 (3546 + 394 * v))) 2 (va_up (ar 2) v 1) 0 = cpR (ar 0) 0 (3546 + 394 * v) := by rw [vu_ne (by decide), vu_same]
        have y2 : va_up (va_up ar 0 (cpR (ar 0) 0 (3546 + 394 * v))) 2 (va_up (ar 2) v 1) 2 = va_up (ar 2) v 1 := vu_same
        refine RL_mk hA c1 h1e h4e (by rw [vu_ne (by decide), vu_ne (by decide)]) (fun x j hx hj => by rw [vu_ne (by decide), vu_ne (by decide)]; exact wd x j hx hj) (fun j hj => ?_) (fun i hi j hj => ?_) (fun k hk2 => ?_)
        · rw [y0, cat, if_neg (by omega)]
        · rw [y0, cat, if_neg (by omega)]
          rfl
        · rw [y0, y2]
          unfold kvU
          by_cases ek : k = v
          · rw [if_pos ek, ek, vu_same]
            exact Or.inr ⟨_, rfl, by decide, fun j hj => by rw [cat, if_pos (by omega), show 0 + (3546 + 394 * v + j - (3546 + 394 * v)) = j by omega]⟩
          · rw [if_neg ek, vu_ne ek]
            rcases kvM_hk (ar := ar) (k := k) with z | ⟨v', z1, z2, z3⟩
            · exact Or.inl z
            · exact Or.inr ⟨v', z1, z2, fun j hj => by rw [cat, if_neg (by omega), z3 j hj]⟩
    · -- back
      refine ⟨i3 (by omega) (by omega), lX_i sx (by omega) (by omega) ?_⟩
      refine cv_i o1 (cp_back cs (fun q => ?_) (fun q hk0 => ?_) (fun q W hkW h1 c1 x1 => ?_))
      · rw [kI_some]
        refine ⟨i3 (by omega) (by omega), lX_i sx (by omega) (by omega) ?_⟩
        refine cv_i mc.1 (via_mH mc (mc_back hA (fun _ => ?_) (fun z => absurd z q) (fun z => absurd z q)))
        rw [kI_some]
        exact both rfl (nxt _ _ _ same sx (by omega) (by omega))
      · rw [kI_some]
        have hz : ar 2 (g (X + 1).toNat).toNat = 0 := by
          unfold kvM at hk0
          apply Classical.byContradiction
          intro z
          rw [if_neg z] at hk0
          cases hk0
        refine ⟨i3 (by omega) (by omega), lX_i sx (by omega) (by omega) ?_⟩
        refine cv_i mc.1 (via_mH mc (mc_back hA (fun z => absurd q z) (fun _ _ => ?_) (fun _ z => absurd hz z)))
        rw [kI_some]
        exact both rfl (nxt _ _ _ same sx (by omega) (by omega))
      · rw [kI_some]
        obtain ⟨v, hv⟩ : ∃ v, v = (g (X + 1).toNat).toNat := ⟨_, rfl⟩
        rw [← hv] at hkW
        have hz : ar 2 v ≠ 0 ∧ W = fun j => ar 0 (3546 + 394 * v + j) := by
          unfold kvM at hkW
          by_cases z : ar 2 v = 0
          · rw [if_pos z] at hkW
            cases hkW
          · rw [if_neg z] at hkW
            exact ⟨z, by simpa using hkW.symm⟩
        have sx1 : hpX h1 b = some (N, g) := by rw [x1.2.1]; exact sx
        have mc1 := mc.mv x1 nm
        refine ⟨i3 (by omega) (by omega), lX_i sx1 (by omega) (by omega) ?_⟩
        refine cv_i mc1.1 (via_mH mc1 (mc_back hA (fun z => absurd q z) (fun _ z => absurd z (by rw [← hv]; exact hz.1)) (fun _ _ => ?_)))
        rw [kI_some]
        refine both (by rw [hz.2, hv]; rfl) (nxt _ _ _ ?_ sx1 (by omega) (by omega))
        rw [← hv]
        have cat : ∀ f t j, cpR (ar 0) f t j = if t ≤ j ∧ j < t + 394 then ar 0 (f + (j - t)) else ar 0 j := fun _ _ _ => rfl
        refine RL_mk hA c1 (by rw [vu_same]; rfl) (by rw [vu_ne (by decide)]; exact h4e) (by rw [vu_ne (by decide)]) (fun x j hx hj => by rw [vu_ne (by decide)]; exact wd x j hx hj) (fun j hj => ?_) (fun i hi => absurd hi (Nat.not_lt_zero i)) (fun k hk2 => ?_)
        · rw [vu_same, cat, if_pos (by omega), hz.2, show 3546 + 394 * v + (j - 0) = 3546 + 394 * v + j by omega]
        · rw [vu_same, vu_ne (by decide)]
          rcases kvM_hk (ar := ar) (k := k) with z | ⟨v', z1, z2, z3⟩
          · exact Or.inl z
          · exact Or.inr ⟨v', z1, z2, fun j hj => by rw [cat, if_neg (by omega), z3 j hj]⟩
    · -- told
      refine ⟨i3 (by omega) (by omega), lX_i sx (by omega) (by omega) ?_⟩
      refine ⟨i3 (by omega) (by omega), lX_i sx (by omega) (by omega) ?_⟩
      refine cv_i o1 (cp_told cs (fun h1 c1 x1 => ?_))
      rw [kI_some]
      have sx1 : hpX h1 b = some (N, g) := by rw [x1.2.1]; exact sx
      have mc1 := mc.mv x1 nm
      refine ⟨i3 (by omega) (by omega), lX_i sx1 (by omega) (by omega) ?_⟩
      refine ⟨i3 (by omega) (by omega), lX_i sx1 (by omega) (by omega) ?_⟩
      refine cv_i mc1.1 (via_mH mc1 (mc_told hA hw ?_))
      rw [kI_some]
      exact both rfl (nxt _ _ _ (RL_q hA c1 h1e h4e wd rfl rfl rfl rfl rfl rfl) sx1 (by omega) (by omega))
    · -- meeting
      refine ⟨i3 (by omega) (by omega), lX_i sx (by omega) (by omega) ?_⟩
      refine ⟨i3 (by omega) (by omega), lX_i sx (by omega) (by omega) ?_⟩
      refine ⟨i3 (by omega) (by omega), lX_i sx (by omega) (by omega) ?_⟩
      refine cv_i o1 (cp_meeting cs (fun h1 c1 x1 => ?_))
      rw [kI_some]
      have sx1 : hpX h1 b = some (N, g) := by rw [x1.2.1]; exact sx
      have mc1 := mc.mv x1 nm
      refine ⟨i3 (by omega) (by omega), lX_i sx1 (by omega) (by omega) ?_⟩
      refine ⟨i3 (by omega) (by omega), lX_i sx1 (by omega) (by omega) ?_⟩
      refine ⟨i3 (by omega) (by omega), lX_i sx1 (by omega) (by omega) ?_⟩
      refine cv_i mc1.1 (via_mH mc1 (mc_meeting hA hw ?_))
      rw [kI_some]
      exact both rfl (nxt _ _ _ (RL_q hA c1 h1e h4e wd rfl rfl rfl rfl rfl rfl) sx1 (by omega) (by omega))
    · -- loan
      refine ⟨i3 (by omega) (by omega), lX_i sx (by omega) (by omega) ?_⟩
      refine ⟨i3 (by omega) (by omega), lX_i sx (by omega) (by omega) ?_⟩
      refine cv_i o1 (cp_loan cs (fun h1 c1 x1 => ?_))
      rw [kI_some]
      have sx1 : hpX h1 b = some (N, g) := by rw [x1.2.1]; exact sx
      have mc1 := mc.mv x1 nm
      refine ⟨i3 (by omega) (by omega), lX_i sx1 (by omega) (by omega) ?_⟩
      refine ⟨i3 (by omega) (by omega), lX_i sx1 (by omega) (by omega) ?_⟩
      refine cv_i mc1.1 (via_mH mc1 (mc_loan hA hw (fun sc' ar' E => ?_)))
      rw [kI_some]
      exact both rfl (nxt _ _ _ (RL_q hA c1 h1e h4e wd (E.1 1 (by decide)) (E.1 4 (by decide)) (E.2 0 (by decide)) (E.2 2 (by decide)) (E.2 3 (by decide)) (E.2 13 (by decide))) sx1 (by omega) (by omega))
    · -- sound
      refine ⟨i3 (by omega) (by omega), lX_i sx (by omega) (by omega) ?_⟩
      refine ⟨i3 (by omega) (by omega), lX_i sx (by omega) (by omega) ?_⟩
      refine ⟨i3 (by omega) (by omega), lX_i sx (by omega) (by omega) ?_⟩
      refine cv_i o1 (cp_sound cs (fun h1 c1 x1 => ?_))
      rw [kI_some]
      have sx1 : hpX h1 b = some (N, g) := by rw [x1.2.1]; exact sx
      have mc1 := mc.mv x1 nm
      refine ⟨i3 (by omega) (by omega), lX_i sx1 (by omega) (by omega) ?_⟩
      refine ⟨i3 (by omega) (by omega), lX_i sx1 (by omega) (by omega) ?_⟩
      refine ⟨i3 (by omega) (by omega), lX_i sx1 (by omega) (by omega) ?_⟩
      refine cv_i mc1.1 (via_mH mc1 (mc_sound hA hw ?_))
      rw [kI_some]
      exact both rfl (nxt _ _ _ (RL_q hA c1 h1e h4e wd rfl rfl rfl rfl rfl rfl) sx1 (by omega) (by omega))
    · -- window
      refine ⟨i3 (by omega) (by omega), lX_i sx (by omega) (by omega) ?_⟩
      refine ⟨i3 (by omega) (by omega), lX_i sx (by omega) (by omega) ?_⟩
      refine ⟨i3 (by omega) (by omega), lX_i sx (by omega) (by omega) ?_⟩
      refine cv_i o1 (cp_window cs (fun h1 c1 x1 => ?_))
      rw [kI_some]
      have sx1 : hpX h1 b = some (N, g) := by rw [x1.2.1]; exact sx
      have mc1 := mc.mv x1 nm
      refine ⟨i3 (by omega) (by omega), lX_i sx1 (by omega) (by omega) ?_⟩
      refine ⟨i3 (by omega) (by omega), lX_i sx1 (by omega) (by omega) ?_⟩
      refine ⟨i3 (by omega) (by omega), lX_i sx1 (by omega) (by omega) ?_⟩
      refine cv_i mc1.1 (via_mH mc1 (mc_window hA hw (hg _).2 (fun sc' ar' E => ?_)))
      rw [kI_some]
      exact both rfl (nxt _ _ _ (RL_q hA c1 h1e h4e wd (E.1 1 (by decide)) (E.1 4 (by decide)) (E.2 0 (by decide)) (E.2 2 (by decide)) (E.2 3 (by decide)) (E.2 13 (by decide))) sx1 (by omega) (by omega))
    · -- taken
      refine ⟨i3 (by omega) (by omega), lX_i sx (by omega) (by omega) ?_⟩
      refine ⟨i3 (by omega) (by omega), lX_i sx (by omega) (by omega) ?_⟩
      refine ⟨i3 (by omega) (by omega), lX_i sx (by omega) (by omega) ?_⟩
      refine cv_i o1 (cp_taken cs (fun h1 c1 x1 => ?_))
      rw [kI_some]
      have sx1 : hpX h1 b = some (N, g) := by rw [x1.2.1]; exact sx
      have mc1 := mc.mv x1 nm
      refine ⟨i3 (by omega) (by omega), lX_i sx1 (by omega) (by omega) ?_⟩
      refine ⟨i3 (by omega) (by omega), lX_i sx1 (by omega) (by omega) ?_⟩
      refine ⟨i3 (by omega) (by omega), lX_i sx1 (by omega) (by omega) ?_⟩
      refine cv_i mc1.1 (via_mH mc1 (mc_taken hA hw (fun sc' ar' E => ?_)))
      rw [kI_some]
      exact both rfl (nxt _ _ _ (RL_q hA c1 h1e h4e wd (E.1 1 (by decide)) (E.1 4 (by decide)) (E.2 0 (by decide)) (E.2 2 (by decide)) (E.2 3 (by decide)) (E.2 13 (by decide))) sx1 (by omega) (by omega))
    · -- gone
      refine ⟨i3 (by omega) (by omega), lX_i sx (by omega) (by omega) ?_⟩
      refine ⟨i3 (by omega) (by omega), lX_i sx (by omega) (by omega) ?_⟩
      refine ⟨i3 (by omega) (by omega), lX_i sx (by omega) (by omega) ?_⟩
      refine ⟨i3 (by omega) (by omega), lX_i sx (by omega) (by omega) ?_⟩
      refine ⟨i3 (by omega) (by omega), lX_i sx (by omega) (by omega) ?_⟩
      refine cv_i o1 (cp_gone cs (fun h1 c1 x1 => ?_))
      rw [kI_some]
      have sx1 : hpX h1 b = some (N, g) := by rw [x1.2.1]; exact sx
      have mc1 := mc.mv x1 nm
      refine ⟨i3 (by omega) (by omega), lX_i sx1 (by omega) (by omega) ?_⟩
      refine ⟨i3 (by omega) (by omega), lX_i sx1 (by omega) (by omega) ?_⟩
      refine ⟨i3 (by omega) (by omega), lX_i sx1 (by omega) (by omega) ?_⟩
      refine ⟨i3 (by omega) (by omega), lX_i sx1 (by omega) (by omega) ?_⟩
      refine ⟨i3 (by omega) (by omega), lX_i sx1 (by omega) (by omega) ?_⟩
      refine cv_i mc1.1 (via_mH mc1 (mc_gone hA hw (fun sc' ar' E => ?_)))
      rw [kI_some]
      exact both rfl (nxt _ _ _ (RL_q hA c1 h1e h4e wd (E.1 1 (by decide)) (E.1 4 (by decide)) (E.2 0 (by decide)) (E.2 2 (by decide)) (E.2 3 (by decide)) (E.2 13 (by decide))) sx1 (by omega) (by omega))
    · -- did
      refine ⟨i3 (by omega) (by omega), lX_i sx (by omega) (by omega) ?_⟩
      refine ⟨i3 (by omega) (by omega), lX_i sx (by omega) (by omega) ?_⟩
      refine ⟨i3 (by omega) (by omega), lX_i sx (by omega) (by omega) ?_⟩
      refine cv_i o1 (cp_did cs (fun h1 c1 x1 => ?_))
      rw [kI_some]
      have sx1 : hpX h1 b = some (N, g) := by rw [x1.2.1]; exact sx
      have mc1 := mc.mv x1 nm
      refine ⟨i3 (by omega) (by omega), lX_i sx1 (by omega) (by omega) ?_⟩
      refine ⟨i3 (by omega) (by omega), lX_i sx1 (by omega) (by omega) ?_⟩
      refine ⟨i3 (by omega) (by omega), lX_i sx1 (by omega) (by omega) ?_⟩
      refine cv_i mc1.1 (via_mH mc1 (mc_did hA hw (fun sc' ar' E => ?_)))
      rw [kI_some]
      exact both rfl (nxt _ _ _ (RL_q hA c1 h1e h4e wd (E.1 1 (by decide)) (E.1 4 (by decide)) (E.2 0 (by decide)) (E.2 2 (by decide)) (E.2 3 (by decide)) (E.2 13 (by decide))) sx1 (by omega) (by omega))
    · -- older
      refine ⟨i3 (by omega) (by omega), lX_i sx (by omega) (by omega) ?_⟩
      refine ⟨i3 (by omega) (by omega), lX_i sx (by omega) (by omega) ?_⟩
      refine cv_i o1 (cp_older cs (fun h1 c1 x1 => ?_))
      rw [kI_some]
      have sx1 : hpX h1 b = some (N, g) := by rw [x1.2.1]; exact sx
      have mc1 := mc.mv x1 nm
      refine ⟨i3 (by omega) (by omega), lX_i sx1 (by omega) (by omega) ?_⟩
      refine ⟨i3 (by omega) (by omega), lX_i sx1 (by omega) (by omega) ?_⟩
      refine cv_i mc1.1 (via_mH mc1 (mc_older hA hw (fun sc' ar' E => ?_)))
      rw [kI_some]
      exact both rfl (nxt _ _ _ (RL_q hA c1 h1e h4e wd (E.1 1 (by decide)) (E.1 4 (by decide)) (E.2 0 (by decide)) (E.2 2 (by decide)) (E.2 3 (by decide)) (E.2 13 (by decide))) sx1 (by omega) (by omega))
    · -- road
      refine ⟨i3 (by omega) (by omega), lX_i sx (by omega) (by omega) ?_⟩
      refine ⟨i3 (by omega) (by omega), lX_i sx (by omega) (by omega) ?_⟩
      refine ⟨i3 (by omega) (by omega), lX_i sx (by omega) (by omega) ?_⟩
      refine ⟨i3 (by omega) (by omega), lX_i sx (by omega) (by omega) ?_⟩
      refine ⟨i3 (by omega) (by omega), lX_i sx (by omega) (by omega) ?_⟩
      refine cv_i o1 (cp_road cs (fun r hr h1 c1 x1 => ?_))
      rw [kI_some]
      have sx1 : hpX h1 b = some (N, g) := by rw [x1.2.1]; exact sx
      have mc1 := mc.mv x1 nm
      refine ⟨i3 (by omega) (by omega), lX_i sx1 (by omega) (by omega) ?_⟩
      refine ⟨i3 (by omega) (by omega), lX_i sx1 (by omega) (by omega) ?_⟩
      refine ⟨i3 (by omega) (by omega), lX_i sx1 (by omega) (by omega) ?_⟩
      refine ⟨i3 (by omega) (by omega), lX_i sx1 (by omega) (by omega) ?_⟩
      refine ⟨i3 (by omega) (by omega), lX_i sx1 (by omega) (by omega) ?_⟩
      refine cv_i mc1.1 (via_mH mc1 (mc_road hA hw (fun r' hr' sc' ar' E => ?_)))
      rw [kI_some]
      exact both (qRoad_uniq hr hr') (nxt _ _ _ (RL_q hA c1 h1e h4e wd (E.1 1 (by decide)) (E.1 4 (by decide)) (E.2 0 (by decide)) (E.2 2 (by decide)) (E.2 3 (by decide)) (E.2 13 (by decide))) sx1 (by omega) (by omega))
    · -- count
      refine ⟨i3 (by omega) (by omega), lX_i sx (by omega) (by omega) ?_⟩
      refine cv_i o1 (cp_count cs (fun h1 c1 x1 => ?_))
      rw [kI_some]
      have sx1 : hpX h1 b = some (N, g) := by rw [x1.2.1]; exact sx
      have mc1 := mc.mv x1 nm
      refine ⟨i3 (by omega) (by omega), lX_i sx1 (by omega) (by omega) ?_⟩
      refine cv_i mc1.1 (via_mH mc1 (mc_count hA hw (fun sc' ar' E => ?_)))
      rw [kI_some]
      exact both (by rw [h1e, h4e]) (nxt _ _ _ (RL_q hA c1 h1e h4e wd (E.1 1 (by decide)) (E.1 4 (by decide)) (E.2 0 (by decide)) (E.2 2 (by decide)) (E.2 3 (by decide)) (E.2 13 (by decide))) sx1 (by omega) (by omega))
    · exact nxt h bc bs rl sx (by omega) (by omega)
