theorem dX6_init_0 : decode cX6_init 0 = .ok (.aload_n 0, 1) := by decide +kernel
theorem dX6_init_1 : decode cX6_init 1 = .ok (.invokespecial 3, 3) := by decide +kernel
theorem dX6_init_4 : decode cX6_init 4 = .ok (.aload_n 0, 1) := by decide +kernel
theorem dX6_init_5 : decode cX6_init 5 = .ok (.sipush 400, 3) := by decide +kernel
theorem dX6_init_8 : decode cX6_init 8 = .ok (.anewarray 9, 3) := by decide +kernel
theorem dX6_init_11 : decode cX6_init 11 = .ok (.putfield 11, 3) := by decide +kernel
theorem dX6_init_14 : decode cX6_init 14 = .ok (.aload_n 0, 1) := by decide +kernel
theorem dX6_init_15 : decode cX6_init 15 = .ok (.bipush 100, 2) := by decide +kernel
theorem dX6_init_17 : decode cX6_init 17 = .ok (.newarray .boolean, 2) := by decide +kernel
theorem dX6_init_19 : decode cX6_init 19 = .ok (.putfield 17, 3) := by decide +kernel
theorem dX6_init_22 : decode cX6_init 22 = .ok (.aload_n 0, 1) := by decide +kernel
theorem dX6_init_23 : decode cX6_init 23 = .ok (.bipush 12, 2) := by decide +kernel
theorem dX6_init_25 : decode cX6_init 25 = .ok (.newarray .long, 2) := by decide +kernel
theorem dX6_init_27 : decode cX6_init 27 = .ok (.putfield 21, 3) := by decide +kernel
theorem dX6_init_30 : decode cX6_init 30 = .ok (.aload_n 0, 1) := by decide +kernel
theorem dX6_init_31 : decode cX6_init 31 = .ok (.iconst 3, 1) := by decide +kernel
theorem dX6_init_32 : decode cX6_init 32 = .ok (.newarray .int, 2) := by decide +kernel
theorem dX6_init_34 : decode cX6_init 34 = .ok (.putfield 25, 3) := by decide +kernel
theorem dX6_init_37 : decode cX6_init 37 = .ok (.aload_n 0, 1) := by decide +kernel
theorem dX6_init_38 : decode cX6_init 38 = .ok (.lconst 0, 1) := by decide +kernel
theorem dX6_init_39 : decode cX6_init 39 = .ok (.putfield 31, 3) := by decide +kernel
theorem dX6_init_42 : decode cX6_init 42 = .ok (.aload_n 0, 1) := by decide +kernel
theorem dX6_init_43 : decode cX6_init 43 = .ok (.iconst 0, 1) := by decide +kernel
theorem dX6_init_44 : decode cX6_init 44 = .ok (.putfield 35, 3) := by decide +kernel
theorem dX6_init_47 : decode cX6_init 47 = .ok (.aload_n 0, 1) := by decide +kernel
theorem dX6_init_48 : decode cX6_init 48 = .ok (.iconst (-1), 1) := by decide +kernel
theorem dX6_init_49 : decode cX6_init 49 = .ok (.putfield 39, 3) := by decide +kernel
theorem dX6_init_52 : decode cX6_init 52 = .ok (.return_, 1) := by decide +kernel
set_option maxRecDepth 100000 in
theorem B_X6_init_0 {d : Nat} {h : AbH} {K : Option AbV → AbH → Prop} {x0 : Nat} (hh : ∀ q1 : Nat, ab_new h q1 → ∀ h2 : AbH, h2 = hsR h q1 (0, 400, fun _ => none) → wpP h2 (some x0) 5 0 (vR (some q1)) (fun h5 => ∀ q6 : Nat, ab_new h5 q6 → ∀ h7 : AbH, h7 = hsZ h5 q6 (100, fun _ => 0) → wpP h7 (some x0) 5 1 (vR (some q6)) (fun h10 => ∀ q11 : Nat, ab_new h10 q11 → ∀ h12 : AbH, h12 = hsJ h10 q11 (12, fun _ => 0) → wpP h12 (some x0) 5 2 (vR (some q11)) (fun h15 => ∀ q16 : Nat, ab_new h15 q16 → ∀ h17 : AbH, h17 = hsI h15 q16 (3, fun _ => 0) → wpP h17 (some x0) 5 3 (vR (some q16)) (fun h20 => wpP h20 (some x0) 5 4 (vL 0) (fun h21 => wpP h21 (some x0) 5 5 (vI 0) (fun h22 => wpP h22 (some x0) 5 6 (vI (-1)) (fun h23 => K none h23)))))))) : Vx (d + 1) m_X6_init 4 515 0 [some (vR (some x0))] [] h K := by
  refine rr_aload_n dX6_init_0 rfl rfl ?_
  refine rr_objInit dX6_init_1 rfl q_143 q_23 q_24 (by decide) ?_
  refine rr_aload_n dX6_init_4 rfl rfl ?_
  refine rr_sipush dX6_init_5 rfl ⟨by decide, by decide⟩ rfl ?_
  refine rr_newR (bc' := 3) (bs' := 115) (n := 400) 0 (Or.inl rfl) dX6_init_8 rfl q_144 rfl (by decide) (by decide) (by decide) (fun q1 hz => ?_)
  have hh := hh q1 hz _ rfl
  generalize hsR h q1 (0, 400, fun _ => none) = h2 at hh ⊢
  refine rr_putF cf_X6 (j := 0) (by decide) dX6_init_11 rfl q_145 rfl rfl rfl (fty := .array (.object "LoanLayers$Law")) (by decide +kernel) (by first | rfl | exact rn_r _ _ (by first | exact Or.inl ⟨_, rfl⟩ | exact Or.inr ⟨_, rfl⟩)) (by first | rfl | exact rf_r _ _ (by first | exact Or.inl ⟨_, rfl⟩ | exact Or.inr ⟨_, rfl⟩)) hh (fun h5 hh => ?_)
  refine rr_aload_n dX6_init_14 rfl rfl ?_
  refine rr_bipush dX6_init_15 rfl ⟨by decide, by decide⟩ rfl ?_
  refine rr_newZ (bc' := 2) (bs' := 15) (n := 100) dX6_init_17 rfl q_168 rfl (by decide) (by decide) (by decide) (fun q6 hz => ?_)
  have hh := hh q6 hz _ rfl
  generalize hsZ h5 q6 (100, fun _ => 0) = h7 at hh ⊢
  refine rr_putF cf_X6 (j := 1) (by decide) dX6_init_19 rfl q_146 rfl rfl rfl (fty := .array (.boolean)) (by decide +kernel) (by first | rfl | exact rn_r _ _ (by first | exact Or.inl ⟨_, rfl⟩ | exact Or.inr ⟨_, rfl⟩)) (by first | rfl | exact rf_r _ _ (by first | exact Or.inl ⟨_, rfl⟩ | exact Or.inr ⟨_, rfl⟩)) hh (fun h10 hh => ?_)
  refine rr_aload_n dX6_init_22 rfl rfl ?_
  refine rr_bipush dX6_init_23 rfl ⟨by decide, by decide⟩ rfl ?_
  refine rr_newJ (bc' := 1) (bs' := 3) (n := 12) dX6_init_25 rfl q_169 rfl (by decide) (by decide) (by decide) (fun q11 hz => ?_)
  have hh := hh q11 hz _ rfl
  generalize hsJ h10 q11 (12, fun _ => 0) = h12 at hh ⊢
  refine rr_putF cf_X6 (j := 2) (by decide) dX6_init_27 rfl q_147 rfl rfl rfl (fty := .array (.long)) (by decide +kernel) (by first | rfl | exact rn_r _ _ (by first | exact Or.inl ⟨_, rfl⟩ | exact Or.inr ⟨_, rfl⟩)) (by first | rfl | exact rf_r _ _ (by first | exact Or.inl ⟨_, rfl⟩ | exact Or.inr ⟨_, rfl⟩)) hh (fun h15 hh => ?_)
  refine rr_aload_n dX6_init_30 rfl rfl ?_
  refine rr_iconst dX6_init_31 rfl ⟨by decide, by decide⟩ ?_
  refine rr_newI (bc' := 0) (bs' := 0) (n := 3) dX6_init_32 rfl q_58 rfl (by decide) (by decide) (by decide) (fun q16 hz => ?_)
  have hh := hh q16 hz _ rfl
  generalize hsI h15 q16 (3, fun _ => 0) = h17 at hh ⊢
  refine rr_putF cf_X6 (j := 3) (by decide) dX6_init_34 rfl q_148 rfl rfl rfl (fty := .array (.int)) (by decide +kernel) (by first | rfl | exact rn_r _ _ (by first | exact Or.inl ⟨_, rfl⟩ | exact Or.inr ⟨_, rfl⟩)) (by first | rfl | exact rf_r _ _ (by first | exact Or.inl ⟨_, rfl⟩ | exact Or.inr ⟨_, rfl⟩)) hh (fun h20 hh => ?_)
  refine rr_aload_n dX6_init_37 rfl rfl ?_
  refine rr_lconst (n := 0) dX6_init_38 rfl ⟨by decide, by decide⟩ rfl ?_
  refine rr_put cf_X6 (j := 4) (by decide) dX6_init_39 rfl q_149 rfl (fty := .long) (by decide +kernel) rfl rfl hh (fun h21 hh => ?_)
  refine rr_aload_n dX6_init_42 rfl rfl ?_
  refine rr_iconst dX6_init_43 rfl ⟨by decide, by decide⟩ ?_
  refine rr_put cf_X6 (j := 5) (by decide) dX6_init_44 rfl q_150 rfl (fty := .int) (by decide +kernel) rfl rfl hh (fun h22 hh => ?_)
  refine rr_aload_n dX6_init_47 rfl rfl ?_
  refine rr_iconst dX6_init_48 rfl ⟨by decide, by decide⟩ ?_
  refine rr_put cf_X6 (j := 6) (by decide) dX6_init_49 rfl q_151 rfl (fty := .int) (by decide +kernel) rfl rfl hh (fun h23 hh => ?_)
  exact rr_vret dX6_init_52 rfl hh
theorem dX6_find_0 : decode cX6_find 0 = .ok (.aload_n 0, 1) := by decide +kernel
theorem dX6_find_1 : decode cX6_find 1 = .ok (.lload 5, 2) := by decide +kernel
theorem dX6_find_3 : decode cX6_find 3 = .ok (.putfield 31, 3) := by decide +kernel
theorem dX6_find_6 : decode cX6_find 6 = .ok (.aload_n 0, 1) := by decide +kernel
theorem dX6_find_7 : decode cX6_find 7 = .ok (.iload 7, 2) := by decide +kernel
theorem dX6_find_9 : decode cX6_find 9 = .ok (.putfield 35, 3) := by decide +kernel
theorem dX6_find_12 : decode cX6_find 12 = .ok (.aload_n 0, 1) := by decide +kernel
theorem dX6_find_13 : decode cX6_find 13 = .ok (.aload_n 1, 1) := by decide +kernel
theorem dX6_find_14 : decode cX6_find 14 = .ok (.invokevirtual 42, 3) := by decide +kernel
theorem dX6_find_17 : decode cX6_find 17 = .ok (.iconst 0, 1) := by decide +kernel
theorem dX6_find_18 : decode cX6_find 18 = .ok (.istore 8, 2) := by decide +kernel
theorem dX6_find_20 : decode cX6_find 20 = .ok (.iload 8, 2) := by decide +kernel
theorem dX6_find_22 : decode cX6_find 22 = .ok (.iconst 3, 1) := by decide +kernel
theorem dX6_find_23 : decode cX6_find 23 = .ok (.if_icmp .gt 29, 3) := by decide +kernel
theorem dX6_find_26 : decode cX6_find 26 = .ok (.aload_n 0, 1) := by decide +kernel
theorem dX6_find_27 : decode cX6_find 27 = .ok (.iload 8, 2) := by decide +kernel
theorem dX6_find_29 : decode cX6_find 29 = .ok (.putfield 39, 3) := by decide +kernel
theorem dX6_find_32 : decode cX6_find 32 = .ok (.aload_n 0, 1) := by decide +kernel
theorem dX6_find_33 : decode cX6_find 33 = .ok (.aload_n 1, 1) := by decide +kernel
theorem dX6_find_34 : decode cX6_find 34 = .ok (.iconst 0, 1) := by decide +kernel
theorem dX6_find_35 : decode cX6_find 35 = .ok (.iconst 0, 1) := by decide +kernel
theorem dX6_find_36 : decode cX6_find 36 = .ok (.iload 4, 2) := by decide +kernel
theorem dX6_find_38 : decode cX6_find 38 = .ok (.lload_n 2, 1) := by decide +kernel
theorem dX6_find_39 : decode cX6_find 39 = .ok (.invokevirtual 46, 3) := by decide +kernel
theorem dX6_find_42 : decode cX6_find 42 = .ok (.ifCond .eq 4, 3) := by decide +kernel
theorem dX6_find_45 : decode cX6_find 45 = .ok (.return_, 1) := by decide +kernel
theorem dX6_find_46 : decode cX6_find 46 = .ok (.iinc 8 1, 3) := by decide +kernel
theorem dX6_find_49 : decode cX6_find 49 = .ok (.goto (-29), 3) := by decide +kernel
theorem dX6_find_52 : decode cX6_find 52 = .ok (.aload_n 0, 1) := by decide +kernel
theorem dX6_find_53 : decode cX6_find 53 = .ok (.iconst (-1), 1) := by decide +kernel
theorem dX6_find_54 : decode cX6_find 54 = .ok (.putfield 39, 3) := by decide +kernel
theorem dX6_find_57 : decode cX6_find 57 = .ok (.return_, 1) := by decide +kernel
set_option maxRecDepth 100000 in
theorem B_X6_find_0 {d : Nat} {h : AbH} {K : Option AbV → AbH → Prop} {x0 : Nat} {x1 : Option Nat} {x2 : Int} {x4 : Int} {x5 : Int} {x7 : Int} (hh : wpP h (some x0) 5 4 (vL x5) (fun h1 => wpP h1 (some x0) 5 5 (vI x7) (fun h2 => wpCV h2 (some x0) 5 (fun b4 => Vm d m_X6_prepare [vR (some b4), vR x1] h2 (kV (fun h3 => Vx (d + 1) m_X6_find 0 0 20 [some (vR (some x0)), some (vR x1), some (vL x2), none, some (vI x4), some (vL x5), none, some (vI x7), some (vI 0)] [] h3 K)))))) : Vx (d + 1) m_X6_find 0 0 0 [some (vR (some x0)), some (vR x1), some (vL x2), none, some (vI x4), some (vL x5), none, some (vI x7)] [] h K := by
  refine Vx.pad 1 [some (vR (some x0)), some (vR x1), some (vL x2), none, some (vI x4), some (vL x5), none, some (vI x7), none] rfl ?_
  refine rr_aload_n dX6_find_0 rfl rfl ?_
  refine rr_lload dX6_find_1 rfl rfl ?_
  refine rr_put cf_X6 (j := 4) (by decide) dX6_find_3 rfl q_149 rfl (fty := .long) (by decide +kernel) rfl rfl hh (fun h1 hh => ?_)
  refine rr_aload_n dX6_find_6 rfl rfl ?_
  refine rr_iload dX6_find_7 rfl rfl ?_
  refine rr_put cf_X6 (j := 5) (by decide) dX6_find_9 rfl q_150 rfl (fty := .int) (by decide +kernel) rfl rfl hh (fun h2 hh => ?_)
  refine rr_aload_n dX6_find_12 rfl rfl ?_
  refine rr_aload_n dX6_find_13 rfl rfl ?_
  refine rr_callW (bc' := 0) (bs' := 0) (q := (some x0)) (av := [vR x1]) (st := []) mf_X6_prepare dX6_find_14 rfl q_688 q_690 qs_17 ⟨_, _, rfl⟩ rfl (by decide) (Nat.le_refl _) (Nat.le_refl _) hh (rr_kV fun h3 hh => ?_)
  refine rr_iconst dX6_find_17 rfl ⟨by decide, by decide⟩ ?_
  refine rr_istore (ls' := [some (vR (some x0)), some (vR x1), some (vL x2), none, some (vI x4), some (vL x5), none, some (vI x7), some (vI 0)]) dX6_find_18 rfl (by decide) (fun _ z => by cases z) rfl ?_
  exact hh
set_option maxRecDepth 100000 in
theorem B_X6_find_20 {d : Nat} {h : AbH} {K : Option AbV → AbH → Prop} {x0 : Nat} {x1 : Option Nat} {x2 : Int} {x4 : Int} {x5 : Int} {x7 : Int} {x8 : Int} {bc bs : Nat} (hh : ((3 < x8 → wpP h (some x0) 5 6 (vI (-1)) (fun h1 => K none h1)) ∧ (¬ (3 < x8) → wpP h (some x0) 5 6 (vI x8) (fun h2 => wpCV h2 (some x0) 5 (fun b6 => Vm d m_X6_leads [vR (some b6), vR x1, vI 0, vI 0, vI x4, vL x2] h2 (kI (fun n4 h3 => ((n4 = 0 → in32 (x8 + 1) ∧ Vx (d + 1) m_X6_find bc bs 20 [some (vR (some x0)), some (vR x1), some (vL x2), none, some (vI x4), some (vL x5), none, some (vI x7), some (vI (x8 + 1))] [] h3 K) ∧ (¬ (n4 = 0) → K none h3))))))))) : Vx (d + 1) m_X6_find bc bs 20 [some (vR (some x0)), some (vR x1), some (vL x2), none, some (vI x4), some (vL x5), none, some (vI x7), some (vI x8)] [] h K := by
  refine rr_iload dX6_find_20 rfl rfl ?_
  refine rr_iconst dX6_find_22 rfl ⟨by decide, by decide⟩ ?_
  refine rr_icmp_gt (tgt := 52) dX6_find_23 rfl (by decide) (fun hc23 => ?_) (fun hc23 => ?_)
  · have hh := hh.1 hc23
    refine rr_aload_n dX6_find_52 rfl rfl ?_
    refine rr_iconst dX6_find_53 rfl ⟨by decide, by decide⟩ ?_
    refine rr_put cf_X6 (j := 6) (by decide) dX6_find_54 rfl q_151 rfl (fty := .int) (by decide +kernel) rfl rfl hh (fun h1 hh => ?_)
    exact rr_vret dX6_find_57 rfl hh
  · have hh := hh.2 hc23
    refine rr_aload_n dX6_find_26 rfl rfl ?_
    refine rr_iload dX6_find_27 rfl rfl ?_
    refine rr_put cf_X6 (j := 6) (by decide) dX6_find_29 rfl q_151 rfl (fty := .int) (by decide +kernel) rfl rfl hh (fun h2 hh => ?_)
    refine rr_aload_n dX6_find_32 rfl rfl ?_
    refine rr_aload_n dX6_find_33 rfl rfl ?_
    refine rr_iconst dX6_find_34 rfl ⟨by decide, by decide⟩ ?_
    refine rr_iconst dX6_find_35 rfl ⟨by decide, by decide⟩ ?_
    refine rr_iload dX6_find_36 rfl rfl ?_
    refine rr_lload_n dX6_find_38 rfl rfl ?_
    refine rr_callW (bc' := bc) (bs' := bs) (q := (some x0)) (av := [vR x1, vI 0, vI 0, vI x4, vL x2]) (st := []) mf_X6_leads dX6_find_39 rfl q_696 q_698 qs_18 ⟨_, _, rfl⟩ rfl (by decide) (Nat.le_refl _) (Nat.le_refl _) hh (rr_kI fun n4 h3 hh => ?_)
    refine rr_if_eq (tgt := 46) dX6_find_42 rfl (by decide) (fun hc42 => ?_) (fun hc42 => ?_)
    · have hh := hh.1 hc42
      obtain ⟨hz5, hh⟩ := hh
      refine rr_iinc (ls' := [some (vR (some x0)), some (vR x1), some (vL x2), none, some (vI x4), some (vL x5), none, some (vI x7), some (vI (x8 + 1))]) dX6_find_46 rfl rfl (by decide) (fun _ z => by cases z) hz5 rfl ?_
      refine rr_goto (pc' := 20) dX6_find_49 (by decide) ?_
      exact hh
    · have hh := hh.2 hc42
      exact rr_vret dX6_find_45 rfl hh
theorem dX6_stepAt_0 : decode cX6_stepAt 0 = .ok (.iload_n 1, 1) := by decide +kernel
theorem dX6_stepAt_1 : decode cX6_stepAt 1 = .ok (.iconst 0, 1) := by decide +kernel
theorem dX6_stepAt_2 : decode cX6_stepAt 2 = .ok (.aload_n 0, 1) := by decide +kernel
theorem dX6_stepAt_3 : decode cX6_stepAt 3 = .ok (.getfield 39, 3) := by decide +kernel
theorem dX6_stepAt_6 : decode cX6_stepAt 6 = .ok (.iconst 1, 1) := by decide +kernel
theorem dX6_stepAt_7 : decode cX6_stepAt 7 = .ok (.isub, 1) := by decide +kernel
theorem dX6_stepAt_8 : decode cX6_stepAt 8 = .ok (.invokestatic 50, 3) := by decide +kernel
theorem dX6_stepAt_11 : decode cX6_stepAt 11 = .ok (.ifCond .eq 21, 3) := by decide +kernel
theorem dX6_stepAt_14 : decode cX6_stepAt 14 = .ok (.iload_n 1, 1) := by decide +kernel
theorem dX6_stepAt_15 : decode cX6_stepAt 15 = .ok (.aload_n 0, 1) := by decide +kernel
theorem dX6_stepAt_16 : decode cX6_stepAt 16 = .ok (.getfield 25, 3) := by decide +kernel
theorem dX6_stepAt_19 : decode cX6_stepAt 19 = .ok (.arraylength, 1) := by decide +kernel
theorem dX6_stepAt_20 : decode cX6_stepAt 20 = .ok (.if_icmp .ge 12, 3) := by decide +kernel
theorem dX6_stepAt_23 : decode cX6_stepAt 23 = .ok (.aload_n 0, 1) := by decide +kernel
theorem dX6_stepAt_24 : decode cX6_stepAt 24 = .ok (.getfield 25, 3) := by decide +kernel
theorem dX6_stepAt_27 : decode cX6_stepAt 27 = .ok (.iload_n 1, 1) := by decide +kernel
theorem dX6_stepAt_28 : decode cX6_stepAt 28 = .ok (.iaload, 1) := by decide +kernel
theorem dX6_stepAt_29 : decode cX6_stepAt 29 = .ok (.goto 4, 3) := by decide +kernel
theorem dX6_stepAt_32 : decode cX6_stepAt 32 = .ok (.iconst (-1), 1) := by decide +kernel
theorem dX6_stepAt_33 : decode cX6_stepAt 33 = .ok (.ireturn, 1) := by decide +kernel
set_option maxRecDepth 100000 in
theorem B_X6_stepAt_0 {d : Nat} {h : AbH} {K : Option AbV → AbH → Prop} {x0 : Nat} {x1 : Int} (hh : wpGI h (some x0) 5 6 (fun n1 => in32 (n1 - 1) ∧ Vm d m_X9_within [vI x1, vI 0, vI (n1 - 1)] h (kI (fun n4 h3 => ((n4 = 0 → K (some (vI (-1))) h3) ∧ (¬ (n4 = 0) → wpGR h3 (some x0) 5 3 (fun r5 => wpNI h3 r5 (fun n6 => ((n6 ≤ x1 → K (some (vI (-1))) h3) ∧ (¬ (n6 ≤ x1) → wpGR h3 (some x0) 5 3 (fun r7 => wpLI h3 r7 x1 (fun n8 => K (some (vI n8)) h3)))))))))))) : Vx (d + 1) m_X6_stepAt 0 0 0 [some (vR (some x0)), some (vI x1)] [] h K := by
  refine rr_iload_n dX6_stepAt_0 rfl rfl ?_
  refine rr_iconst dX6_stepAt_1 rfl ⟨by decide, by decide⟩ ?_
  refine rr_aload_n dX6_stepAt_2 rfl rfl ?_
  refine rr_getI cf_X6 (j := 6) (by decide) dX6_stepAt_3 rfl q_151 hh (fun n1 hh => ?_)
  refine rr_iconst dX6_stepAt_6 rfl ⟨by decide, by decide⟩ ?_
  obtain ⟨hz2, hh⟩ := hh
  refine rr_isub dX6_stepAt_7 rfl hz2 ?_
  refine rr_callSN (bc' := 0) (bs' := 0) (av := [vI x1, vI 0, vI (n1 - 1)]) (st := []) mf_X9_within dX6_stepAt_8 rfl qn_14 q_197 rfl (by decide) (Nat.le_refl _) (Nat.le_refl _) hh (rr_kI fun n4 h3 hh => ?_)
  refine rr_if_eq (tgt := 32) dX6_stepAt_11 rfl (by decide) (fun hc11 => ?_) (fun hc11 => ?_)
  · have hh := hh.1 hc11
    refine rr_iconst dX6_stepAt_32 rfl ⟨by decide, by decide⟩ ?_
    exact rr_iret dX6_stepAt_33 rfl hh
  · have hh := hh.2 hc11
    refine rr_iload_n dX6_stepAt_14 rfl rfl ?_
    refine rr_aload_n dX6_stepAt_15 rfl rfl ?_
    refine rr_getR cf_X6 (j := 3) (by decide) dX6_stepAt_16 rfl q_148 hh (fun r5 hh => ?_)
    refine rr_alenI dX6_stepAt_19 rfl hh (fun n6 hh => ?_)
    refine rr_icmp_ge (tgt := 32) dX6_stepAt_20 rfl (by decide) (fun hc20 => ?_) (fun hc20 => ?_)
    · have hh := hh.1 hc20
      refine rr_iconst dX6_stepAt_32 rfl ⟨by decide, by decide⟩ ?_
      exact rr_iret dX6_stepAt_33 rfl hh
    · have hh := hh.2 hc20
      refine rr_aload_n dX6_stepAt_23 rfl rfl ?_
      refine rr_getR cf_X6 (j := 3) (by decide) dX6_stepAt_24 rfl q_148 hh (fun r7 hh => ?_)
      refine rr_iload_n dX6_stepAt_27 rfl rfl ?_
      refine rr_iald dX6_stepAt_28 rfl hh (fun n8 hh => ?_)
      refine rr_goto (pc' := 33) dX6_stepAt_29 (by decide) ?_
      exact rr_iret dX6_stepAt_33 rfl hh
theorem dX6_prepare_0 : decode cX6_prepare 0 = .ok (.iconst 0, 1) := by decide +kernel
theorem dX6_prepare_1 : decode cX6_prepare 1 = .ok (.istore_n 2, 1) := by decide +kernel
theorem dX6_prepare_2 : decode cX6_prepare 2 = .ok (.iload_n 2, 1) := by decide +kernel
theorem dX6_prepare_3 : decode cX6_prepare 3 = .ok (.aload_n 0, 1) := by decide +kernel
theorem dX6_prepare_4 : decode cX6_prepare 4 = .ok (.getfield 11, 3) := by decide +kernel
theorem dX6_prepare_7 : decode cX6_prepare 7 = .ok (.arraylength, 1) := by decide +kernel
theorem dX6_prepare_8 : decode cX6_prepare 8 = .ok (.if_icmp .ge 16, 3) := by decide +kernel
theorem dX6_prepare_11 : decode cX6_prepare 11 = .ok (.aload_n 0, 1) := by decide +kernel
theorem dX6_prepare_12 : decode cX6_prepare 12 = .ok (.getfield 11, 3) := by decide +kernel
theorem dX6_prepare_15 : decode cX6_prepare 15 = .ok (.iload_n 2, 1) := by decide +kernel
theorem dX6_prepare_16 : decode cX6_prepare 16 = .ok (.aconst_null, 1) := by decide +kernel
theorem dX6_prepare_17 : decode cX6_prepare 17 = .ok (.aastore, 1) := by decide +kernel
theorem dX6_prepare_18 : decode cX6_prepare 18 = .ok (.iinc 2 1, 3) := by decide +kernel
theorem dX6_prepare_21 : decode cX6_prepare 21 = .ok (.goto (-19), 3) := by decide +kernel
theorem dX6_prepare_24 : decode cX6_prepare 24 = .ok (.iconst 0, 1) := by decide +kernel
theorem dX6_prepare_25 : decode cX6_prepare 25 = .ok (.istore_n 2, 1) := by decide +kernel
theorem dX6_prepare_26 : decode cX6_prepare 26 = .ok (.iload_n 2, 1) := by decide +kernel
theorem dX6_prepare_27 : decode cX6_prepare 27 = .ok (.aload_n 0, 1) := by decide +kernel
theorem dX6_prepare_28 : decode cX6_prepare 28 = .ok (.getfield 17, 3) := by decide +kernel
theorem dX6_prepare_31 : decode cX6_prepare 31 = .ok (.arraylength, 1) := by decide +kernel
theorem dX6_prepare_32 : decode cX6_prepare 32 = .ok (.if_icmp .ge 16, 3) := by decide +kernel
theorem dX6_prepare_35 : decode cX6_prepare 35 = .ok (.aload_n 0, 1) := by decide +kernel
theorem dX6_prepare_36 : decode cX6_prepare 36 = .ok (.getfield 17, 3) := by decide +kernel
theorem dX6_prepare_39 : decode cX6_prepare 39 = .ok (.iload_n 2, 1) := by decide +kernel
theorem dX6_prepare_40 : decode cX6_prepare 40 = .ok (.iconst 0, 1) := by decide +kernel
theorem dX6_prepare_41 : decode cX6_prepare 41 = .ok (.bastore, 1) := by decide +kernel
theorem dX6_prepare_42 : decode cX6_prepare 42 = .ok (.iinc 2 1, 3) := by decide +kernel
theorem dX6_prepare_45 : decode cX6_prepare 45 = .ok (.goto (-19), 3) := by decide +kernel
theorem dX6_prepare_48 : decode cX6_prepare 48 = .ok (.iconst 0, 1) := by decide +kernel
theorem dX6_prepare_49 : decode cX6_prepare 49 = .ok (.istore_n 2, 1) := by decide +kernel
theorem dX6_prepare_50 : decode cX6_prepare 50 = .ok (.iload_n 2, 1) := by decide +kernel
theorem dX6_prepare_51 : decode cX6_prepare 51 = .ok (.bipush 16, 2) := by decide +kernel
theorem dX6_prepare_53 : decode cX6_prepare 53 = .ok (.if_icmp .ge 69, 3) := by decide +kernel
theorem dX6_prepare_56 : decode cX6_prepare 56 = .ok (.aload_n 1, 1) := by decide +kernel
theorem dX6_prepare_57 : decode cX6_prepare 57 = .ok (.iload_n 2, 1) := by decide +kernel
theorem dX6_prepare_58 : decode cX6_prepare 58 = .ok (.invokevirtual 54, 3) := by decide +kernel
theorem dX6_prepare_61 : decode cX6_prepare 61 = .ok (.astore_n 3, 1) := by decide +kernel
theorem dX6_prepare_62 : decode cX6_prepare 62 = .ok (.aload_n 3, 1) := by decide +kernel
theorem dX6_prepare_63 : decode cX6_prepare 63 = .ok (.ifnull 53, 3) := by decide +kernel
theorem dX6_prepare_66 : decode cX6_prepare 66 = .ok (.aload_n 3, 1) := by decide +kernel
theorem dX6_prepare_67 : decode cX6_prepare 67 = .ok (.getfield 60, 3) := by decide +kernel
theorem dX6_prepare_70 : decode cX6_prepare 70 = .ok (.invokestatic 63, 3) := by decide +kernel
theorem dX6_prepare_73 : decode cX6_prepare 73 = .ok (.ifCond .eq 43, 3) := by decide +kernel
theorem dX6_prepare_76 : decode cX6_prepare 76 = .ok (.aload_n 3, 1) := by decide +kernel
theorem dX6_prepare_77 : decode cX6_prepare 77 = .ok (.getfield 67, 3) := by decide +kernel
theorem dX6_prepare_80 : decode cX6_prepare 80 = .ok (.invokestatic 70, 3) := by decide +kernel
theorem dX6_prepare_83 : decode cX6_prepare 83 = .ok (.ifCond .ne 6, 3) := by decide +kernel
theorem dX6_prepare_86 : decode cX6_prepare 86 = .ok (.goto 30, 3) := by decide +kernel
theorem dX6_prepare_89 : decode cX6_prepare 89 = .ok (.aload_n 0, 1) := by decide +kernel
theorem dX6_prepare_90 : decode cX6_prepare 90 = .ok (.getfield 11, 3) := by decide +kernel
theorem dX6_prepare_93 : decode cX6_prepare 93 = .ok (.aload_n 3, 1) := by decide +kernel
theorem dX6_prepare_94 : decode cX6_prepare 94 = .ok (.getfield 60, 3) := by decide +kernel
theorem dX6_prepare_97 : decode cX6_prepare 97 = .ok (.iconst 4, 1) := by decide +kernel
theorem dX6_prepare_98 : decode cX6_prepare 98 = .ok (.imul, 1) := by decide +kernel
theorem dX6_prepare_99 : decode cX6_prepare 99 = .ok (.aload_n 3, 1) := by decide +kernel
theorem dX6_prepare_100 : decode cX6_prepare 100 = .ok (.getfield 67, 3) := by decide +kernel
theorem dX6_prepare_103 : decode cX6_prepare 103 = .ok (.iadd, 1) := by decide +kernel
theorem dX6_prepare_104 : decode cX6_prepare 104 = .ok (.aload_n 3, 1) := by decide +kernel
theorem dX6_prepare_105 : decode cX6_prepare 105 = .ok (.aastore, 1) := by decide +kernel
theorem dX6_prepare_106 : decode cX6_prepare 106 = .ok (.aload_n 0, 1) := by decide +kernel
theorem dX6_prepare_107 : decode cX6_prepare 107 = .ok (.getfield 17, 3) := by decide +kernel
theorem dX6_prepare_110 : decode cX6_prepare 110 = .ok (.aload_n 3, 1) := by decide +kernel
theorem dX6_prepare_111 : decode cX6_prepare 111 = .ok (.getfield 60, 3) := by decide +kernel
theorem dX6_prepare_114 : decode cX6_prepare 114 = .ok (.iconst 1, 1) := by decide +kernel
theorem dX6_prepare_115 : decode cX6_prepare 115 = .ok (.bastore, 1) := by decide +kernel
theorem dX6_prepare_116 : decode cX6_prepare 116 = .ok (.iinc 2 1, 3) := by decide +kernel
theorem dX6_prepare_119 : decode cX6_prepare 119 = .ok (.goto (-69), 3) := by decide +kernel
theorem dX6_prepare_122 : decode cX6_prepare 122 = .ok (.iconst 0, 1) := by decide +kernel
theorem dX6_prepare_123 : decode cX6_prepare 123 = .ok (.istore_n 2, 1) := by decide +kernel
theorem dX6_prepare_124 : decode cX6_prepare 124 = .ok (.iload_n 2, 1) := by decide +kernel
theorem dX6_prepare_125 : decode cX6_prepare 125 = .ok (.bipush 16, 2) := by decide +kernel
theorem dX6_prepare_127 : decode cX6_prepare 127 = .ok (.if_icmp .ge 29, 3) := by decide +kernel
theorem dX6_prepare_130 : decode cX6_prepare 130 = .ok (.aload_n 1, 1) := by decide +kernel
theorem dX6_prepare_131 : decode cX6_prepare 131 = .ok (.iload_n 2, 1) := by decide +kernel
theorem dX6_prepare_132 : decode cX6_prepare 132 = .ok (.invokevirtual 73, 3) := by decide +kernel
theorem dX6_prepare_135 : decode cX6_prepare 135 = .ok (.istore_n 3, 1) := by decide +kernel
theorem dX6_prepare_136 : decode cX6_prepare 136 = .ok (.iload_n 3, 1) := by decide +kernel
theorem dX6_prepare_137 : decode cX6_prepare 137 = .ok (.invokestatic 63, 3) := by decide +kernel
theorem dX6_prepare_140 : decode cX6_prepare 140 = .ok (.ifCond .eq 10, 3) := by decide +kernel
theorem dX6_prepare_143 : decode cX6_prepare 143 = .ok (.aload_n 0, 1) := by decide +kernel
theorem dX6_prepare_144 : decode cX6_prepare 144 = .ok (.getfield 17, 3) := by decide +kernel
theorem dX6_prepare_147 : decode cX6_prepare 147 = .ok (.iload_n 3, 1) := by decide +kernel
theorem dX6_prepare_148 : decode cX6_prepare 148 = .ok (.iconst 1, 1) := by decide +kernel
theorem dX6_prepare_149 : decode cX6_prepare 149 = .ok (.bastore, 1) := by decide +kernel
theorem dX6_prepare_150 : decode cX6_prepare 150 = .ok (.iinc 2 1, 3) := by decide +kernel
theorem dX6_prepare_153 : decode cX6_prepare 153 = .ok (.goto (-29), 3) := by decide +kernel
theorem dX6_prepare_156 : decode cX6_prepare 156 = .ok (.return_, 1) := by decide +kernel
set_option maxRecDepth 100000 in
theorem B_X6_prepare_0 {d : Nat} {h : AbH} {K : Option AbV → AbH → Prop} {x0 : Nat} {x1 : Option Nat} (hh : Vx (d + 1) m_X6_prepare 0 0 2 [some (vR (some x0)), some (vR x1), some (vI 0), none] [] h K) : Vx (d + 1) m_X6_prepare 0 0 0 [some (vR (some x0)), some (vR x1)] [] h K := by
  refine Vx.pad 2 [some (vR (some x0)), some (vR x1), none, none] rfl ?_
  refine rr_iconst dX6_prepare_0 rfl ⟨by decide, by decide⟩ ?_
  refine rr_istore_n (ls' := [some (vR (some x0)), some (vR x1), some (vI 0), none]) dX6_prepare_1 rfl (by decide) (fun _ z => by cases z) rfl ?_
  exact hh
set_option maxRecDepth 100000 in
theorem B_X6_prepare_2 {d : Nat} {h : AbH} {K : Option AbV → AbH → Prop} {x0 : Nat} {x1 : Option Nat} {x2 : Int} {bc bs : Nat} (hh : wpGR h (some x0) 5 0 (fun r1 => wpNR h r1 (fun n2 => ((n2 ≤ x2 → Vx (d + 1) m_X6_prepare bc bs 26 [some (vR (some x0)), some (vR x1), some (vI 0), none] [] h K) ∧ (¬ (n2 ≤ x2) → wpGR h (some x0) 5 0 (fun r3 => wpSR h r3 x2 none (fun h4 => in32 (x2 + 1) ∧ Vx (d + 1) m_X6_prepare bc bs 2 [some (vR (some x0)), some (vR x1), some (vI (x2 + 1)), none] [] h4 K))))))) : Vx (d + 1) m_X6_prepare bc bs 2 [some (vR (some x0)), some (vR x1), some (vI x2), none] [] h K := by
  refine rr_iload_n dX6_prepare_2 rfl rfl ?_
  refine rr_aload_n dX6_prepare_3 rfl rfl ?_
  refine rr_getR cf_X6 (j := 0) (by decide) dX6_prepare_4 rfl q_145 hh (fun r1 hh => ?_)
  refine rr_alenR dX6_prepare_7 rfl hh (fun n2 hh => ?_)
  refine rr_icmp_ge (tgt := 24) dX6_prepare_8 rfl (by decide) (fun hc8 => ?_) (fun hc8 => ?_)
  · have hh := hh.1 hc8
    refine rr_iconst dX6_prepare_24 rfl ⟨by decide, by decide⟩ ?_
    refine rr_istore_n (ls' := [some (vR (some x0)), some (vR x1), some (vI 0), none]) dX6_prepare_25 rfl (by decide) (fun _ z => by cases z) rfl ?_
    exact hh
  · have hh := hh.2 hc8
    refine rr_aload_n dX6_prepare_11 rfl rfl ?_
    refine rr_getR cf_X6 (j := 0) (by decide) dX6_prepare_12 rfl q_145 hh (fun r3 hh => ?_)
    refine rr_iload_n dX6_prepare_15 rfl rfl ?_
    refine rr_null dX6_prepare_16 rfl ?_
    refine rr_aast dX6_prepare_17 rfl hh (fun h4 hh => ?_)
    obtain ⟨hz5, hh⟩ := hh
    refine rr_iinc (ls' := [some (vR (some x0)), some (vR x1), some (vI (x2 + 1)), none]) dX6_prepare_18 rfl rfl (by decide) (fun _ z => by cases z) hz5 rfl ?_
    refine rr_goto (pc' := 2) dX6_prepare_21 (by decide) ?_
    exact hh
set_option maxRecDepth 100000 in
theorem B_X6_prepare_26 {d : Nat} {h : AbH} {K : Option AbV → AbH → Prop} {x0 : Nat} {x1 : Option Nat} {x2 : Int} {bc bs : Nat} (hh : wpGR h (some x0) 5 1 (fun r1 => wpNZ h r1 (fun n2 => ((n2 ≤ x2 → Vx (d + 1) m_X6_prepare bc bs 50 [some (vR (some x0)), some (vR x1), some (vI 0), none] [] h K) ∧ (¬ (n2 ≤ x2) → wpGR h (some x0) 5 1 (fun r3 => wpSZ h r3 x2 0 (fun h4 => in32 (x2 + 1) ∧ Vx (d + 1) m_X6_prepare bc bs 26 [some (vR (some x0)), some (vR x1), some (vI (x2 + 1)), none] [] h4 K))))))) : Vx (d + 1) m_X6_prepare bc bs 26 [some (vR (some x0)), some (vR x1), some (vI x2), none] [] h K := by
  refine rr_iload_n dX6_prepare_26 rfl rfl ?_
  refine rr_aload_n dX6_prepare_27 rfl rfl ?_
  refine rr_getR cf_X6 (j := 1) (by decide) dX6_prepare_28 rfl q_146 hh (fun r1 hh => ?_)
  refine rr_alenZ dX6_prepare_31 rfl hh (fun n2 hh => ?_)
  refine rr_icmp_ge (tgt := 48) dX6_prepare_32 rfl (by decide) (fun hc32 => ?_) (fun hc32 => ?_)
  · have hh := hh.1 hc32
    refine rr_iconst dX6_prepare_48 rfl ⟨by decide, by decide⟩ ?_
    refine rr_istore_n (ls' := [some (vR (some x0)), some (vR x1), some (vI 0), none]) dX6_prepare_49 rfl (by decide) (fun _ z => by cases z) rfl ?_
    exact hh
  · have hh := hh.2 hc32
    refine rr_aload_n dX6_prepare_35 rfl rfl ?_
    refine rr_getR cf_X6 (j := 1) (by decide) dX6_prepare_36 rfl q_146 hh (fun r3 hh => ?_)
    refine rr_iload_n dX6_prepare_39 rfl rfl ?_
    refine rr_iconst dX6_prepare_40 rfl ⟨by decide, by decide⟩ ?_
    refine rr_zast dX6_prepare_41 rfl hh (fun h4 hh => ?_)
    obtain ⟨hz5, hh⟩ := hh
    refine rr_iinc (ls' := [some (vR (some x0)), some (vR x1), some (vI (x2 + 1)), none]) dX6_prepare_42 rfl rfl (by decide) (fun _ z => by cases z) hz5 rfl ?_
    refine rr_goto (pc' := 26) dX6_prepare_45 (by decide) ?_
    exact hh
set_option maxRecDepth 100000 in
theorem B_X6_prepare_50 {d : Nat} {h : AbH} {K : Option AbV → AbH → Prop} {x0 : Nat} {x1 : Option Nat} {x2 : Int} {bc bs : Nat} (hh : ((16 ≤ x2 → Vx (d + 1) m_X6_prepare bc bs 124 [some (vR (some x0)), some (vR x1), some (vI 0), none] [] h K) ∧ (¬ (16 ≤ x2) → wpCV h x1 7 (fun b22 => Vm d m_X8_lawAt [vR (some b22), vI x2] h (kR (fun r2 h1 => ((r2 = none → in32 (x2 + 1) ∧ Vx (d + 1) m_X6_prepare bc bs 50 [some (vR (some x0)), some (vR x1), some (vI (x2 + 1)), none] [] h1 K) ∧ (¬ (r2 = none) → wpGI h1 r2 0 1 (fun n4 => Vm d m_X9_isDate [vI n4] h1 (kI (fun n6 h5 => ((n6 = 0 → in32 (x2 + 1) ∧ Vx (d + 1) m_X6_prepare bc bs 50 [some (vR (some x0)), some (vR x1), some (vI (x2 + 1)), none] [] h5 K) ∧ (¬ (n6 = 0) → wpGI h5 r2 0 0 (fun n8 => Vm d m_X9_isTongue [vI n8] h5 (kI (fun n10 h9 => ((n10 ≠ 0 → wpGR h9 (some x0) 5 0 (fun r11 => wpGI h9 r2 0 1 (fun n12 => in32 (n12 * 4) ∧ wpGI h9 r2 0 0 (fun n14 => in32 ((n12 * 4) + n14) ∧ wpSR h9 r11 ((n12 * 4) + n14) r2 (fun h16 => wpGR h16 (some x0) 5 1 (fun r17 => wpGI h16 r2 0 1 (fun n18 => wpSZ h16 r17 n18 1 (fun h19 => in32 (x2 + 1) ∧ Vx (d + 1) m_X6_prepare bc bs 50 [some (vR (some x0)), some (vR x1), some (vI (x2 + 1)), none] [] h19 K)))))))) ∧ (¬ (n10 ≠ 0) → in32 (x2 + 1) ∧ Vx (d + 1) m_X6_prepare bc bs 50 [some (vR (some x0)), some (vR x1), some (vI (x2 + 1)), none] [] h9 K)))))))))))))))))) : Vx (d + 1) m_X6_prepare bc bs 50 [some (vR (some x0)), some (vR x1), some (vI x2), none] [] h K := by
  refine rr_iload_n dX6_prepare_50 rfl rfl ?_
  refine rr_bipush dX6_prepare_51 rfl ⟨by decide, by decide⟩ rfl ?_
  refine rr_icmp_ge (tgt := 122) dX6_prepare_53 rfl (by decide) (fun hc53 => ?_) (fun hc53 => ?_)
  · have hh := hh.1 hc53
    refine rr_iconst dX6_prepare_122 rfl ⟨by decide, by decide⟩ ?_
    refine rr_istore_n (ls' := [some (vR (some x0)), some (vR x1), some (vI 0), none]) dX6_prepare_123 rfl (by decide) (fun _ z => by cases z) rfl ?_
    exact hh
  · have hh := hh.2 hc53
    refine rr_aload_n dX6_prepare_56 rfl rfl ?_
    refine rr_iload_n dX6_prepare_57 rfl rfl ?_
    refine rr_callW (bc' := bc) (bs' := bs) (q := x1) (av := [vI x2]) (st := []) mf_X8_lawAt dX6_prepare_58 rfl q_692 q_469 q_470 ⟨_, _, rfl⟩ rfl (by decide) (Nat.le_refl _) (Nat.le_refl _) hh (rr_kR fun r2 h1 hh => ?_)
    refine rr_astore_n (ls' := [some (vR (some x0)), some (vR x1), some (vI x2), some (vR r2)]) dX6_prepare_61 rfl (by decide) (fun _ z => by cases z) rfl ?_
    refine rr_aload_n dX6_prepare_62 rfl rfl ?_
    refine rr_ifnull (tgt := 116) dX6_prepare_63 rfl (by decide) (fun hc63 => ?_) (fun hc63 => ?_)
    · have hh := hh.1 hc63
      obtain ⟨hz3, hh⟩ := hh
      refine rr_iinc (ls' := [some (vR (some x0)), some (vR x1), some (vI (x2 + 1)), some (vR r2)]) dX6_prepare_116 rfl rfl (by decide) (fun _ z => by cases z) hz3 rfl ?_
      refine rr_goto (pc' := 50) dX6_prepare_119 (by decide) ?_
      exact Vx.forget (ls' := [some (vR (some x0)), some (vR x1), some (vI (x2 + 1)), none]) (And.intro rfl (And.intro rfl (And.intro rfl trivial))) hh
    · have hh := hh.2 hc63
      refine rr_aload_n dX6_prepare_66 rfl rfl ?_
      refine rr_getI cf_X1 (j := 1) (by decide) dX6_prepare_67 rfl q_338 hh (fun n4 hh => ?_)
      refine rr_callSN (bc' := bc) (bs' := bs) (av := [vI n4]) (st := []) mf_X9_isDate dX6_prepare_70 rfl qn_12 q_483 rfl (by decide) (Nat.le_refl _) (Nat.le_refl _) hh (rr_kI fun n6 h5 hh => ?_)
      refine rr_if_eq (tgt := 116) dX6_prepare_73 rfl (by decide) (fun hc73 => ?_) (fun hc73 => ?_)
      · have hh := hh.1 hc73
        obtain ⟨hz7, hh⟩ := hh
        refine rr_iinc (ls' := [some (vR (some x0)), some (vR x1), some (vI (x2 + 1)), some (vR r2)]) dX6_prepare_116 rfl rfl (by decide) (fun _ z => by cases z) hz7 rfl ?_
        refine rr_goto (pc' := 50) dX6_prepare_119 (by decide) ?_
        exact Vx.forget (ls' := [some (vR (some x0)), some (vR x1), some (vI (x2 + 1)), none]) (And.intro rfl (And.intro rfl (And.intro rfl trivial))) hh
      · have hh := hh.2 hc73
        refine rr_aload_n dX6_prepare_76 rfl rfl ?_
        refine rr_getI cf_X1 (j := 0) (by decide) dX6_prepare_77 rfl q_333 hh (fun n8 hh => ?_)
        refine rr_callSN (bc' := bc) (bs' := bs) (av := [vI n8]) (st := []) mf_X9_isTongue dX6_prepare_80 rfl qn_13 q_384 rfl (by decide) (Nat.le_refl _) (Nat.le_refl _) hh (rr_kI fun n10 h9 hh => ?_)
        refine rr_if_ne (tgt := 89) dX6_prepare_83 rfl (by decide) (fun hc83 => ?_) (fun hc83 => ?_)
        · have hh := hh.1 hc83
          refine rr_aload_n dX6_prepare_89 rfl rfl ?_
          refine rr_getR cf_X6 (j := 0) (by decide) dX6_prepare_90 rfl q_145 hh (fun r11 hh => ?_)
          refine rr_aload_n dX6_prepare_93 rfl rfl ?_
          refine rr_getI cf_X1 (j := 1) (by decide) dX6_prepare_94 rfl q_338 hh (fun n12 hh => ?_)
          refine rr_iconst dX6_prepare_97 rfl ⟨by decide, by decide⟩ ?_
          obtain ⟨hz13, hh⟩ := hh
          refine rr_imul dX6_prepare_98 rfl hz13 ?_
          refine rr_aload_n dX6_prepare_99 rfl rfl ?_
          refine rr_getI cf_X1 (j := 0) (by decide) dX6_prepare_100 rfl q_333 hh (fun n14 hh => ?_)
          obtain ⟨hz15, hh⟩ := hh
          refine rr_iadd dX6_prepare_103 rfl hz15 ?_
          refine rr_aload_n dX6_prepare_104 rfl rfl ?_
          refine rr_aast dX6_prepare_105 rfl hh (fun h16 hh => ?_)
          refine rr_aload_n dX6_prepare_106 rfl rfl ?_
          refine rr_getR cf_X6 (j := 1) (by decide) dX6_prepare_107 rfl q_146 hh (fun r17 hh => ?_)
          refine rr_aload_n dX6_prepare_110 rfl rfl ?_
          refine rr_getI cf_X1 (j := 1) (by decide) dX6_prepare_111 rfl q_338 hh (fun n18 hh => ?_)
          refine rr_iconst dX6_prepare_114 rfl ⟨by decide, by decide⟩ ?_
          refine rr_zast dX6_prepare_115 rfl hh (fun h19 hh => ?_)
          obtain ⟨hz20, hh⟩ := hh
          refine rr_iinc (ls' := [some (vR (some x0)), some (vR x1), some (vI (x2 + 1)), some (vR r2)]) dX6_prepare_116 rfl rfl (by decide) (fun _ z => by cases z) hz20 rfl ?_
          refine rr_goto (pc' := 50) dX6_prepare_119 (by decide) ?_
          exact Vx.forget (ls' := [some (vR (some x0)), some (vR x1), some (vI (x2 + 1)), none]) (And.intro rfl (And.intro rfl (And.intro rfl trivial))) hh
        · have hh := hh.2 hc83
          refine rr_goto (pc' := 116) dX6_prepare_86 (by decide) ?_
          obtain ⟨hz21, hh⟩ := hh
          refine rr_iinc (ls' := [some (vR (some x0)), some (vR x1), some (vI (x2 + 1)), some (vR r2)]) dX6_prepare_116 rfl rfl (by decide) (fun _ z => by cases z) hz21 rfl ?_
          refine rr_goto (pc' := 50) dX6_prepare_119 (by decide) ?_
          exact Vx.forget (ls' := [some (vR (some x0)), some (vR x1), some (vI (x2 + 1)), none]) (And.intro rfl (And.intro rfl (And.intro rfl trivial))) hh
set_option maxRecDepth 100000 in
theorem B_X6_prepare_124 {d : Nat} {h : AbH} {K : Option AbV → AbH → Prop} {x0 : Nat} {x1 : Option Nat} {x2 : Int} {bc bs : Nat} (hh : ((16 ≤ x2 → K none h) ∧ (¬ (16 ≤ x2) → wpCV h x1 7 (fun b9 => Vm d m_X8_firstOf [vR (some b9), vI x2] h (kI (fun n2 h1 => Vm d m_X9_isDate [vI n2] h1 (kI (fun n4 h3 => ((n4 = 0 → in32 (x2 + 1) ∧ Vx (d + 1) m_X6_prepare bc bs 124 [some (vR (some x0)), some (vR x1), some (vI (x2 + 1)), none] [] h3 K) ∧ (¬ (n4 = 0) → wpGR h3 (some x0) 5 1 (fun r6 => wpSZ h3 r6 n2 1 (fun h7 => in32 (x2 + 1) ∧ Vx (d + 1) m_X6_prepare bc bs 124 [some (vR (some x0)), some (vR x1), some (vI (x2 + 1)), none] [] h7 K)))))))))))) : Vx (d + 1) m_X6_prepare bc bs 124 [some (vR (some x0)), some (vR x1), some (vI x2), none] [] h K := by
  refine rr_iload_n dX6_prepare_124 rfl rfl ?_
  refine rr_bipush dX6_prepare_125 rfl ⟨by decide, by decide⟩ rfl ?_
  refine rr_icmp_ge (tgt := 156) dX6_prepare_127 rfl (by decide) (fun hc127 => ?_) (fun hc127 => ?_)
  · have hh := hh.1 hc127
    exact rr_vret dX6_prepare_156 rfl hh
  · have hh := hh.2 hc127
    refine rr_aload_n dX6_prepare_130 rfl rfl ?_
    refine rr_iload_n dX6_prepare_131 rfl rfl ?_
    refine rr_callW (bc' := bc) (bs' := bs) (q := x1) (av := [vI x2]) (st := []) mf_X8_firstOf dX6_prepare_132 rfl q_695 q_495 q_496 ⟨_, _, rfl⟩ rfl (by decide) (Nat.le_refl _) (Nat.le_refl _) hh (rr_kI fun n2 h1 hh => ?_)
    refine rr_istore_n (ls' := [some (vR (some x0)), some (vR x1), some (vI x2), some (vI n2)]) dX6_prepare_135 rfl (by decide) (fun _ z => by cases z) rfl ?_
    refine rr_iload_n dX6_prepare_136 rfl rfl ?_
    refine rr_callSN (bc' := bc) (bs' := bs) (av := [vI n2]) (st := []) mf_X9_isDate dX6_prepare_137 rfl qn_12 q_483 rfl (by decide) (Nat.le_refl _) (Nat.le_refl _) hh (rr_kI fun n4 h3 hh => ?_)
    refine rr_if_eq (tgt := 150) dX6_prepare_140 rfl (by decide) (fun hc140 => ?_) (fun hc140 => ?_)
    · have hh := hh.1 hc140
      obtain ⟨hz5, hh⟩ := hh
      refine rr_iinc (ls' := [some (vR (some x0)), some (vR x1), some (vI (x2 + 1)), some (vI n2)]) dX6_prepare_150 rfl rfl (by decide) (fun _ z => by cases z) hz5 rfl ?_
      refine rr_goto (pc' := 124) dX6_prepare_153 (by decide) ?_
      exact Vx.forget (ls' := [some (vR (some x0)), some (vR x1), some (vI (x2 + 1)), none]) (And.intro rfl (And.intro rfl (And.intro rfl trivial))) hh
    · have hh := hh.2 hc140
      refine rr_aload_n dX6_prepare_143 rfl rfl ?_
      refine rr_getR cf_X6 (j := 1) (by decide) dX6_prepare_144 rfl q_146 hh (fun r6 hh => ?_)
      refine rr_iload_n dX6_prepare_147 rfl rfl ?_
      refine rr_iconst dX6_prepare_148 rfl ⟨by decide, by decide⟩ ?_
      refine rr_zast dX6_prepare_149 rfl hh (fun h7 hh => ?_)
      obtain ⟨hz8, hh⟩ := hh
      refine rr_iinc (ls' := [some (vR (some x0)), some (vR x1), some (vI (x2 + 1)), some (vI n2)]) dX6_prepare_150 rfl rfl (by decide) (fun _ z => by cases z) hz8 rfl ?_
      refine rr_goto (pc' := 124) dX6_prepare_153 (by decide) ?_
      exact Vx.forget (ls' := [some (vR (some x0)), some (vR x1), some (vI (x2 + 1)), none]) (And.intro rfl (And.intro rfl (And.intro rfl trivial))) hh
theorem dX6_leads_0 : decode cX6_leads 0 = .ok (.iload_n 2, 1) := by decide +kernel
theorem dX6_leads_1 : decode cX6_leads 1 = .ok (.iconst 0, 1) := by decide +kernel
theorem dX6_leads_2 : decode cX6_leads 2 = .ok (.aload_n 0, 1) := by decide +kernel
theorem dX6_leads_3 : decode cX6_leads 3 = .ok (.getfield 39, 3) := by decide +kernel
theorem dX6_leads_6 : decode cX6_leads 6 = .ok (.iconst 3, 1) := by decide +kernel
theorem dX6_leads_7 : decode cX6_leads 7 = .ok (.invokestatic 77, 3) := by decide +kernel
theorem dX6_leads_10 : decode cX6_leads 10 = .ok (.iconst 1, 1) := by decide +kernel
theorem dX6_leads_11 : decode cX6_leads 11 = .ok (.isub, 1) := by decide +kernel
theorem dX6_leads_12 : decode cX6_leads 12 = .ok (.invokestatic 50, 3) := by decide +kernel
theorem dX6_leads_15 : decode cX6_leads 15 = .ok (.ifCond .ne 37, 3) := by decide +kernel
theorem dX6_leads_18 : decode cX6_leads 18 = .ok (.iload 4, 2) := by decide +kernel
theorem dX6_leads_20 : decode cX6_leads 20 = .ok (.aload_n 0, 1) := by decide +kernel
theorem dX6_leads_21 : decode cX6_leads 21 = .ok (.getfield 35, 3) := by decide +kernel
theorem dX6_leads_24 : decode cX6_leads 24 = .ok (.if_icmp .ne 26, 3) := by decide +kernel
theorem dX6_leads_27 : decode cX6_leads 27 = .ok (.aload_n 1, 1) := by decide +kernel
theorem dX6_leads_28 : decode cX6_leads 28 = .ok (.lload 5, 2) := by decide +kernel
theorem dX6_leads_30 : decode cX6_leads 30 = .ok (.iload 4, 2) := by decide +kernel
theorem dX6_leads_32 : decode cX6_leads 32 = .ok (.iload_n 3, 1) := by decide +kernel
theorem dX6_leads_33 : decode cX6_leads 33 = .ok (.bipush 99, 2) := by decide +kernel
theorem dX6_leads_35 : decode cX6_leads 35 = .ok (.invokevirtual 83, 3) := by decide +kernel
theorem dX6_leads_38 : decode cX6_leads 38 = .ok (.aload_n 0, 1) := by decide +kernel
theorem dX6_leads_39 : decode cX6_leads 39 = .ok (.getfield 31, 3) := by decide +kernel
theorem dX6_leads_42 : decode cX6_leads 42 = .ok (.lcmp, 1) := by decide +kernel
theorem dX6_leads_43 : decode cX6_leads 43 = .ok (.ifCond .ne 7, 3) := by decide +kernel
theorem dX6_leads_46 : decode cX6_leads 46 = .ok (.iconst 1, 1) := by decide +kernel
theorem dX6_leads_47 : decode cX6_leads 47 = .ok (.goto 4, 3) := by decide +kernel
theorem dX6_leads_50 : decode cX6_leads 50 = .ok (.iconst 0, 1) := by decide +kernel
theorem dX6_leads_51 : decode cX6_leads 51 = .ok (.ireturn, 1) := by decide +kernel
theorem dX6_leads_52 : decode cX6_leads 52 = .ok (.iconst 0, 1) := by decide +kernel
theorem dX6_leads_53 : decode cX6_leads 53 = .ok (.istore 7, 2) := by decide +kernel
theorem dX6_leads_55 : decode cX6_leads 55 = .ok (.iload 7, 2) := by decide +kernel
theorem dX6_leads_57 : decode cX6_leads 57 = .ok (.iconst 4, 1) := by decide +kernel
theorem dX6_leads_58 : decode cX6_leads 58 = .ok (.if_icmp .ge 23, 3) := by decide +kernel
theorem dX6_leads_61 : decode cX6_leads 61 = .ok (.aload_n 0, 1) := by decide +kernel
theorem dX6_leads_62 : decode cX6_leads 62 = .ok (.getfield 21, 3) := by decide +kernel
theorem dX6_leads_65 : decode cX6_leads 65 = .ok (.iload_n 2, 1) := by decide +kernel
theorem dX6_leads_66 : decode cX6_leads 66 = .ok (.iconst 4, 1) := by decide +kernel
theorem dX6_leads_67 : decode cX6_leads 67 = .ok (.imul, 1) := by decide +kernel
theorem dX6_leads_68 : decode cX6_leads 68 = .ok (.iload 7, 2) := by decide +kernel
theorem dX6_leads_70 : decode cX6_leads 70 = .ok (.iadd, 1) := by decide +kernel
theorem dX6_leads_71 : decode cX6_leads 71 = .ok (.ldc2_w 87, 3) := by decide +kernel
theorem dX6_leads_74 : decode cX6_leads 74 = .ok (.lastore, 1) := by decide +kernel
theorem dX6_leads_75 : decode cX6_leads 75 = .ok (.iinc 7 1, 3) := by decide +kernel
theorem dX6_leads_78 : decode cX6_leads 78 = .ok (.goto (-23), 3) := by decide +kernel
theorem dX6_leads_81 : decode cX6_leads 81 = .ok (.aload_n 0, 1) := by decide +kernel
theorem dX6_leads_82 : decode cX6_leads 82 = .ok (.aload_n 1, 1) := by decide +kernel
theorem dX6_leads_83 : decode cX6_leads 83 = .ok (.iload_n 2, 1) := by decide +kernel
theorem dX6_leads_84 : decode cX6_leads 84 = .ok (.iload_n 3, 1) := by decide +kernel
theorem dX6_leads_85 : decode cX6_leads 85 = .ok (.iload 4, 2) := by decide +kernel
theorem dX6_leads_87 : decode cX6_leads 87 = .ok (.lload 5, 2) := by decide +kernel
theorem dX6_leads_89 : decode cX6_leads 89 = .ok (.invokevirtual 89, 3) := by decide +kernel
theorem dX6_leads_92 : decode cX6_leads 92 = .ok (.ifCond .eq 5, 3) := by decide +kernel
theorem dX6_leads_95 : decode cX6_leads 95 = .ok (.iconst 1, 1) := by decide +kernel
theorem dX6_leads_96 : decode cX6_leads 96 = .ok (.ireturn, 1) := by decide +kernel
theorem dX6_leads_97 : decode cX6_leads 97 = .ok (.lload 5, 2) := by decide +kernel
theorem dX6_leads_99 : decode cX6_leads 99 = .ok (.lstore 7, 2) := by decide +kernel
theorem dX6_leads_101 : decode cX6_leads 101 = .ok (.iload_n 3, 1) := by decide +kernel
theorem dX6_leads_102 : decode cX6_leads 102 = .ok (.iconst 1, 1) := by decide +kernel
theorem dX6_leads_103 : decode cX6_leads 103 = .ok (.iadd, 1) := by decide +kernel
theorem dX6_leads_104 : decode cX6_leads 104 = .ok (.istore 9, 2) := by decide +kernel
theorem dX6_leads_106 : decode cX6_leads 106 = .ok (.iload 9, 2) := by decide +kernel
theorem dX6_leads_108 : decode cX6_leads 108 = .ok (.bipush 99, 2) := by decide +kernel
theorem dX6_leads_110 : decode cX6_leads 110 = .ok (.if_icmp .gt 57, 3) := by decide +kernel
theorem dX6_leads_113 : decode cX6_leads 113 = .ok (.aload_n 0, 1) := by decide +kernel
theorem dX6_leads_114 : decode cX6_leads 114 = .ok (.iload 9, 2) := by decide +kernel
theorem dX6_leads_116 : decode cX6_leads 116 = .ok (.invokevirtual 92, 3) := by decide +kernel
theorem dX6_leads_119 : decode cX6_leads 119 = .ok (.ifCond .ne 6, 3) := by decide +kernel
theorem dX6_leads_122 : decode cX6_leads 122 = .ok (.goto 39, 3) := by decide +kernel
theorem dX6_leads_125 : decode cX6_leads 125 = .ok (.aload_n 0, 1) := by decide +kernel
theorem dX6_leads_126 : decode cX6_leads 126 = .ok (.lload 7, 2) := by decide +kernel
theorem dX6_leads_128 : decode cX6_leads 128 = .ok (.iload 4, 2) := by decide +kernel
theorem dX6_leads_130 : decode cX6_leads 130 = .ok (.iload 9, 2) := by decide +kernel
theorem dX6_leads_132 : decode cX6_leads 132 = .ok (.invokevirtual 95, 3) := by decide +kernel
theorem dX6_leads_135 : decode cX6_leads 135 = .ok (.lstore 7, 2) := by decide +kernel
theorem dX6_leads_137 : decode cX6_leads 137 = .ok (.aload_n 0, 1) := by decide +kernel
theorem dX6_leads_138 : decode cX6_leads 138 = .ok (.iload_n 2, 1) := by decide +kernel
theorem dX6_leads_139 : decode cX6_leads 139 = .ok (.iload 9, 2) := by decide +kernel
theorem dX6_leads_141 : decode cX6_leads 141 = .ok (.invokevirtual 99, 3) := by decide +kernel
theorem dX6_leads_144 : decode cX6_leads 144 = .ok (.aload_n 0, 1) := by decide +kernel
theorem dX6_leads_145 : decode cX6_leads 145 = .ok (.aload_n 1, 1) := by decide +kernel
theorem dX6_leads_146 : decode cX6_leads 146 = .ok (.iload_n 2, 1) := by decide +kernel
theorem dX6_leads_147 : decode cX6_leads 147 = .ok (.iload 9, 2) := by decide +kernel
theorem dX6_leads_149 : decode cX6_leads 149 = .ok (.iload 4, 2) := by decide +kernel
theorem dX6_leads_151 : decode cX6_leads 151 = .ok (.lload 7, 2) := by decide +kernel
theorem dX6_leads_153 : decode cX6_leads 153 = .ok (.invokevirtual 89, 3) := by decide +kernel
theorem dX6_leads_156 : decode cX6_leads 156 = .ok (.ifCond .eq 5, 3) := by decide +kernel
theorem dX6_leads_159 : decode cX6_leads 159 = .ok (.iconst 1, 1) := by decide +kernel
theorem dX6_leads_160 : decode cX6_leads 160 = .ok (.ireturn, 1) := by decide +kernel
theorem dX6_leads_161 : decode cX6_leads 161 = .ok (.iinc 9 1, 3) := by decide +kernel
theorem dX6_leads_164 : decode cX6_leads 164 = .ok (.goto (-58), 3) := by decide +kernel
theorem dX6_leads_167 : decode cX6_leads 167 = .ok (.iconst 0, 1) := by decide +kernel
theorem dX6_leads_168 : decode cX6_leads 168 = .ok (.ireturn, 1) := by decide +kernel
set_option maxRecDepth 100000 in
theorem B_X6_leads_0 {d : Nat} {h : AbH} {K : Option AbV → AbH → Prop} {x0 : Nat} {x1 : Option Nat} {x2 : Int} {x3 : Int} {x4 : Int} {x5 : Int} (hh : wpGI h (some x0) 5 6 (fun n1 => in32 ((if 3 < n1 then 3 else n1) - 1) ∧ Vm d m_X9_within [vI x2, vI 0, vI ((if 3 < n1 then 3 else n1) - 1)] h (kI (fun n4 h3 => ((n4 ≠ 0 → Vx (d + 1) m_X6_leads 0 0 55 [some (vR (some x0)), some (vR x1), some (vI x2), some (vI x3), some (vI x4), some (vL x5), none, some (vI 0), none, none] [] h3 K) ∧ (¬ (n4 ≠ 0) → wpGI h3 (some x0) 5 5 (fun n5 => ((x4 ≠ n5 → K (some (vI 0)) h3) ∧ (¬ (x4 ≠ n5) → wpCV h3 x1 7 (fun b9 => Vm d m_X8_developed [vR (some b9), vL x5, vI x4, vI x3, vI 99] h3 (kL (fun n7 h6 => wpGL h6 (some x0) 5 4 (fun n8 => ((n7 ≠ n8 → K (some (vI 0)) h6) ∧ (¬ (n7 ≠ n8) → K (some (vI 1)) h6))))))))))))))) : Vx (d + 1) m_X6_leads 0 0 0 [some (vR (some x0)), some (vR x1), some (vI x2), some (vI x3), some (vI x4), some (vL x5), none] [] h K := by
  refine Vx.pad 3 [some (vR (some x0)), some (vR x1), some (vI x2), some (vI x3), some (vI x4), some (vL x5), none, none, none, none] rfl ?_
  refine rr_iload_n dX6_leads_0 rfl rfl ?_
  refine rr_iconst dX6_leads_1 rfl ⟨by decide, by decide⟩ ?_
  refine rr_aload_n dX6_leads_2 rfl rfl ?_
  refine rr_getI cf_X6 (j := 6) (by decide) dX6_leads_3 rfl q_151 hh (fun n1 hh => ?_)
  refine rr_iconst dX6_leads_6 rfl ⟨by decide, by decide⟩ ?_
  refine rr_mmin dX6_leads_7 rfl q_700 q_240 q_9 q_241 (show 2 ≤ 8 by decide) ?_
  refine rr_iconst dX6_leads_10 rfl ⟨by decide, by decide⟩ ?_
  obtain ⟨hz2, hh⟩ := hh
  refine rr_isub dX6_leads_11 rfl hz2 ?_
  refine rr_callSN (bc' := 0) (bs' := 0) (av := [vI x2, vI 0, vI ((if 3 < n1 then 3 else n1) - 1)]) (st := []) mf_X9_within dX6_leads_12 rfl qn_14 q_197 rfl (by decide) (Nat.le_refl _) (Nat.le_refl _) hh (rr_kI fun n4 h3 hh => ?_)
  refine rr_if_ne (tgt := 52) dX6_leads_15 rfl (by decide) (fun hc15 => ?_) (fun hc15 => ?_)
  · have hh := hh.1 hc15
    refine rr_iconst dX6_leads_52 rfl ⟨by decide, by decide⟩ ?_
    refine rr_istore (ls' := [some (vR (some x0)), some (vR x1), some (vI x2), some (vI x3), some (vI x4), some (vL x5), none, some (vI 0), none, none]) dX6_leads_53 rfl (by decide) (fun _ z => by cases z) rfl ?_
    exact hh
  · have hh := hh.2 hc15
    refine rr_iload dX6_leads_18 rfl rfl ?_
    refine rr_aload_n dX6_leads_20 rfl rfl ?_
    refine rr_getI cf_X6 (j := 5) (by decide) dX6_leads_21 rfl q_150 hh (fun n5 hh => ?_)
    refine rr_icmp_ne (tgt := 50) dX6_leads_24 rfl (by decide) (fun hc24 => ?_) (fun hc24 => ?_)
    · have hh := hh.1 hc24
      refine rr_iconst dX6_leads_50 rfl ⟨by decide, by decide⟩ ?_
      exact rr_zret dX6_leads_51 rfl rfl hh
    · have hh := hh.2 hc24
      refine rr_aload_n dX6_leads_27 rfl rfl ?_
      refine rr_lload dX6_leads_28 rfl rfl ?_
      refine rr_iload dX6_leads_30 rfl rfl ?_
      refine rr_iload_n dX6_leads_32 rfl rfl ?_
      refine rr_bipush dX6_leads_33 rfl ⟨by decide, by decide⟩ rfl ?_
      refine rr_callW (bc' := 0) (bs' := 0) (q := x1) (av := [vL x5, vI x4, vI x3, vI 99]) (st := []) mf_X8_developed dX6_leads_35 rfl q_702 q_512 q_513 ⟨_, _, rfl⟩ rfl (by decide) (Nat.le_refl _) (Nat.le_refl _) hh (rr_kL fun n7 h6 hh => ?_)
      refine rr_aload_n dX6_leads_38 rfl rfl ?_
      refine rr_getL cf_X6 (j := 4) (by decide) dX6_leads_39 rfl q_149 hh (fun n8 hh => ?_)
      refine rr_lcmp dX6_leads_42 rfl ?_
      refine rr_if_ne (tgt := 50) dX6_leads_43 rfl (by decide) (fun hc43 => ?_) (fun hc43 => ?_)
      · have hh := hh.1 (lcm_ne.mp hc43)
        refine rr_iconst dX6_leads_50 rfl ⟨by decide, by decide⟩ ?_
        exact rr_zret dX6_leads_51 rfl rfl hh
      · have hh := hh.2 (fun z => hc43 (lcm_ne.mpr z))
        refine rr_iconst dX6_leads_46 rfl ⟨by decide, by decide⟩ ?_
        refine rr_goto (pc' := 51) dX6_leads_47 (by decide) ?_
        exact rr_zret dX6_leads_51 rfl rfl hh
set_option maxRecDepth 100000 in
theorem B_X6_leads_55 {d : Nat} {h : AbH} {K : Option AbV → AbH → Prop} {x0 : Nat} {x1 : Option Nat} {x2 : Int} {x3 : Int} {x4 : Int} {x5 : Int} {x7 : Int} {bc bs : Nat} (hh : ((4 ≤ x7 → wpCV h (some x0) 5 (fun b4 => Vm d m_X6_branches [vR (some b4), vR x1, vI x2, vI x3, vI x4, vL x5] h (kI (fun n2 h1 => ((n2 = 0 → in32 (x3 + 1) ∧ Vx (d + 1) m_X6_leads bc bs 106 [some (vR (some x0)), some (vR x1), some (vI x2), some (vI x3), some (vI x4), some (vL x5), none, some (vL x5), none, some (vI (x3 + 1))] [] h1 K) ∧ (¬ (n2 = 0) → K (some (vI 1)) h1)))))) ∧ (¬ (4 ≤ x7) → wpGR h (some x0) 5 2 (fun r5 => in32 (x2 * 4) ∧ in32 ((x2 * 4) + x7) ∧ wpSJ h r5 ((x2 * 4) + x7) (-1) (fun h8 => in32 (x7 + 1) ∧ Vx (d + 1) m_X6_leads bc bs 55 [some (vR (some x0)), some (vR x1), some (vI x2), some (vI x3), some (vI x4), some (vL x5), none, some (vI (x7 + 1)), none, none] [] h8 K))))) : Vx (d + 1) m_X6_leads bc bs 55 [some (vR (some x0)), some (vR x1), some (vI x2), some (vI x3), some (vI x4), some (vL x5), none, some (vI x7), none, none] [] h K := by
  refine rr_iload dX6_leads_55 rfl rfl ?_
  refine rr_iconst dX6_leads_57 rfl ⟨by decide, by decide⟩ ?_
  refine rr_icmp_ge (tgt := 81) dX6_leads_58 rfl (by decide) (fun hc58 => ?_) (fun hc58 => ?_)
  · have hh := hh.1 hc58
    refine rr_aload_n dX6_leads_81 rfl rfl ?_
    refine rr_aload_n dX6_leads_82 rfl rfl ?_
    refine rr_iload_n dX6_leads_83 rfl rfl ?_
    refine rr_iload_n dX6_leads_84 rfl rfl ?_
    refine rr_iload dX6_leads_85 rfl rfl ?_
    refine rr_lload dX6_leads_87 rfl rfl ?_
    refine rr_callW (bc' := bc) (bs' := bs) (q := (some x0)) (av := [vR x1, vI x2, vI x3, vI x4, vL x5]) (st := []) mf_X6_branches dX6_leads_89 rfl q_704 q_706 qs_19 ⟨_, _, rfl⟩ rfl (by decide) (Nat.le_refl _) (Nat.le_refl _) hh (rr_kI fun n2 h1 hh => ?_)
    refine rr_if_eq (tgt := 97) dX6_leads_92 rfl (by decide) (fun hc92 => ?_) (fun hc92 => ?_)
    · have hh := hh.1 hc92
      refine rr_lload dX6_leads_97 rfl rfl ?_
      refine rr_lstore (ls' := [some (vR (some x0)), some (vR x1), some (vI x2), some (vI x3), some (vI x4), some (vL x5), none, some (vL x5), none, none]) dX6_leads_99 rfl (by decide) (fun _ z => by cases z) rfl ?_
      refine rr_iload_n dX6_leads_101 rfl rfl ?_
      refine rr_iconst dX6_leads_102 rfl ⟨by decide, by decide⟩ ?_
      obtain ⟨hz3, hh⟩ := hh
      refine rr_iadd dX6_leads_103 rfl hz3 ?_
      refine rr_istore (ls' := [some (vR (some x0)), some (vR x1), some (vI x2), some (vI x3), some (vI x4), some (vL x5), none, some (vL x5), none, some (vI (x3 + 1))]) dX6_leads_104 rfl (by decide) (fun _ z => by cases z) rfl ?_
      exact hh
    · have hh := hh.2 hc92
      refine rr_iconst dX6_leads_95 rfl ⟨by decide, by decide⟩ ?_
      exact rr_zret dX6_leads_96 rfl rfl hh
  · have hh := hh.2 hc58
    refine rr_aload_n dX6_leads_61 rfl rfl ?_
    refine rr_getR cf_X6 (j := 2) (by decide) dX6_leads_62 rfl q_147 hh (fun r5 hh => ?_)
    refine rr_iload_n dX6_leads_65 rfl rfl ?_
    refine rr_iconst dX6_leads_66 rfl ⟨by decide, by decide⟩ ?_
    obtain ⟨hz6, hh⟩ := hh
    refine rr_imul dX6_leads_67 rfl hz6 ?_
    refine rr_iload dX6_leads_68 rfl rfl ?_
    obtain ⟨hz7, hh⟩ := hh
    refine rr_iadd dX6_leads_70 rfl hz7 ?_
    refine rr_ldc2 (n := -1) dX6_leads_71 rfl q_703 (by decide) ⟨by decide, by decide⟩ ?_
    refine rr_last dX6_leads_74 rfl hh (fun h8 hh => ?_)
    obtain ⟨hz9, hh⟩ := hh
    refine rr_iinc (ls' := [some (vR (some x0)), some (vR x1), some (vI x2), some (vI x3), some (vI x4), some (vL x5), none, some (vI (x7 + 1)), none, none]) dX6_leads_75 rfl rfl (by decide) (fun _ z => by cases z) hz9 rfl ?_
    refine rr_goto (pc' := 55) dX6_leads_78 (by decide) ?_
    exact hh
set_option maxRecDepth 100000 in
theorem B_X6_leads_106 {d : Nat} {h : AbH} {K : Option AbV → AbH → Prop} {x0 : Nat} {x1 : Option Nat} {x2 : Int} {x3 : Int} {x4 : Int} {x5 : Int} {x7 : Int} {x9 : Int} {bc bs : Nat} (hh : ((99 < x9 → K (some (vI 0)) h) ∧ (¬ (99 < x9) → wpCV h (some x0) 5 (fun b13 => Vm d m_X6_isBusy [vR (some b13), vI x9] h (kI (fun n2 h1 => ((n2 ≠ 0 → wpCV h1 (some x0) 5 (fun b11 => Vm d m_X6_changed [vR (some b11), vL x7, vI x4, vI x9] h1 (kL (fun n4 h3 => wpCV h3 (some x0) 5 (fun b10 => Vm d m_X6_ageTried [vR (some b10), vI x2, vI x9] h3 (kV (fun h5 => wpCV h5 (some x0) 5 (fun b9 => Vm d m_X6_branches [vR (some b9), vR x1, vI x2, vI x9, vI x4, vL n4] h5 (kI (fun n7 h6 => ((n7 = 0 → in32 (x9 + 1) ∧ Vx (d + 1) m_X6_leads bc bs 106 [some (vR (some x0)), some (vR x1), some (vI x2), some (vI x3), some (vI x4), some (vL x5), none, some (vL n4), none, some (vI (x9 + 1))] [] h6 K) ∧ (¬ (n7 = 0) → K (some (vI 1)) h6)))))))))))) ∧ (¬ (n2 ≠ 0) → in32 (x9 + 1) ∧ Vx (d + 1) m_X6_leads bc bs 106 [some (vR (some x0)), some (vR x1), some (vI x2), some (vI x3), some (vI x4), some (vL x5), none, some (vL x7), none, some (vI (x9 + 1))] [] h1 K)))))))) : Vx (d + 1) m_X6_leads bc bs 106 [some (vR (some x0)), some (vR x1), some (vI x2), some (vI x3), some (vI x4), some (vL x5), none, some (vL x7), none, some (vI x9)] [] h K := by
  refine rr_iload dX6_leads_106 rfl rfl ?_
  refine rr_bipush dX6_leads_108 rfl ⟨by decide, by decide⟩ rfl ?_
  refine rr_icmp_gt (tgt := 167) dX6_leads_110 rfl (by decide) (fun hc110 => ?_) (fun hc110 => ?_)
  · have hh := hh.1 hc110
    refine rr_iconst dX6_leads_167 rfl ⟨by decide, by decide⟩ ?_
    exact rr_zret dX6_leads_168 rfl rfl hh
  · have hh := hh.2 hc110
    refine rr_aload_n dX6_leads_113 rfl rfl ?_
    refine rr_iload dX6_leads_114 rfl rfl ?_
    refine rr_callW (bc' := bc) (bs' := bs) (q := (some x0)) (av := [vI x9]) (st := []) mf_X6_isBusy dX6_leads_116 rfl q_715 q_717 qs_20 ⟨_, _, rfl⟩ rfl (by decide) (Nat.le_refl _) (Nat.le_refl _) hh (rr_kI fun n2 h1 hh => ?_)
    refine rr_if_ne (tgt := 125) dX6_leads_119 rfl (by decide) (fun hc119 => ?_) (fun hc119 => ?_)
    · have hh := hh.1 hc119
      refine rr_aload_n dX6_leads_125 rfl rfl ?_
      refine rr_lload dX6_leads_126 rfl rfl ?_
      refine rr_iload dX6_leads_128 rfl rfl ?_
      refine rr_iload dX6_leads_130 rfl rfl ?_
      refine rr_callW (bc' := bc) (bs' := bs) (q := (some x0)) (av := [vL x7, vI x4, vI x9]) (st := []) mf_X6_changed dX6_leads_132 rfl q_719 q_721 qs_21 ⟨_, _, rfl⟩ rfl (by decide) (Nat.le_refl _) (Nat.le_refl _) hh (rr_kL fun n4 h3 hh => ?_)
      refine rr_lstore (ls' := [some (vR (some x0)), some (vR x1), some (vI x2), some (vI x3), some (vI x4), some (vL x5), none, some (vL n4), none, some (vI x9)]) dX6_leads_135 rfl (by decide) (fun _ z => by cases z) rfl ?_
      refine rr_aload_n dX6_leads_137 rfl rfl ?_
      refine rr_iload_n dX6_leads_138 rfl rfl ?_
      refine rr_iload dX6_leads_139 rfl rfl ?_
      refine rr_callW (bc' := bc) (bs' := bs) (q := (some x0)) (av := [vI x2, vI x9]) (st := []) mf_X6_ageTried dX6_leads_141 rfl q_724 q_726 qs_22 ⟨_, _, rfl⟩ rfl (by decide) (Nat.le_refl _) (Nat.le_refl _) hh (rr_kV fun h5 hh => ?_)
      refine rr_aload_n dX6_leads_144 rfl rfl ?_
      refine rr_aload_n dX6_leads_145 rfl rfl ?_
      refine rr_iload_n dX6_leads_146 rfl rfl ?_
      refine rr_iload dX6_leads_147 rfl rfl ?_
      refine rr_iload dX6_leads_149 rfl rfl ?_
      refine rr_lload dX6_leads_151 rfl rfl ?_
      refine rr_callW (bc' := bc) (bs' := bs) (q := (some x0)) (av := [vR x1, vI x2, vI x9, vI x4, vL n4]) (st := []) mf_X6_branches dX6_leads_153 rfl q_704 q_706 qs_19 ⟨_, _, rfl⟩ rfl (by decide) (Nat.le_refl _) (Nat.le_refl _) hh (rr_kI fun n7 h6 hh => ?_)
      refine rr_if_eq (tgt := 161) dX6_leads_156 rfl (by decide) (fun hc156 => ?_) (fun hc156 => ?_)
      · have hh := hh.1 hc156
        obtain ⟨hz8, hh⟩ := hh
        refine rr_iinc (ls' := [some (vR (some x0)), some (vR x1), some (vI x2), some (vI x3), some (vI x4), some (vL x5), none, some (vL n4), none, some (vI (x9 + 1))]) dX6_leads_161 rfl rfl (by decide) (fun _ z => by cases z) hz8 rfl ?_
        refine rr_goto (pc' := 106) dX6_leads_164 (by decide) ?_
        exact hh
      · have hh := hh.2 hc156
        refine rr_iconst dX6_leads_159 rfl ⟨by decide, by decide⟩ ?_
        exact rr_zret dX6_leads_160 rfl rfl hh
    · have hh := hh.2 hc119
      refine rr_goto (pc' := 161) dX6_leads_122 (by decide) ?_
      obtain ⟨hz12, hh⟩ := hh
      refine rr_iinc (ls' := [some (vR (some x0)), some (vR x1), some (vI x2), some (vI x3), some (vI x4), some (vL x5), none, some (vL x7), none, some (vI (x9 + 1))]) dX6_leads_161 rfl rfl (by decide) (fun _ z => by cases z) hz12 rfl ?_
      refine rr_goto (pc' := 106) dX6_leads_164 (by decide) ?_
      exact hh
theorem dX6_branches_0 : decode cX6_branches 0 = .ok (.iload_n 2, 1) := by decide +kernel
theorem dX6_branches_1 : decode cX6_branches 1 = .ok (.iconst 0, 1) := by decide +kernel
theorem dX6_branches_2 : decode cX6_branches 2 = .ok (.iconst 2, 1) := by decide +kernel
theorem dX6_branches_3 : decode cX6_branches 3 = .ok (.invokestatic 50, 3) := by decide +kernel
theorem dX6_branches_6 : decode cX6_branches 6 = .ok (.ifCond .ne 5, 3) := by decide +kernel
theorem dX6_branches_9 : decode cX6_branches 9 = .ok (.iconst 0, 1) := by decide +kernel
theorem dX6_branches_10 : decode cX6_branches 10 = .ok (.ireturn, 1) := by decide +kernel
theorem dX6_branches_11 : decode cX6_branches 11 = .ok (.iconst 0, 1) := by decide +kernel
theorem dX6_branches_12 : decode cX6_branches 12 = .ok (.istore 7, 2) := by decide +kernel
theorem dX6_branches_14 : decode cX6_branches 14 = .ok (.iload 7, 2) := by decide +kernel
theorem dX6_branches_16 : decode cX6_branches 16 = .ok (.iconst 4, 1) := by decide +kernel
theorem dX6_branches_17 : decode cX6_branches 17 = .ok (.if_icmp .ge 109, 3) := by decide +kernel
theorem dX6_branches_20 : decode cX6_branches 20 = .ok (.iload_n 2, 1) := by decide +kernel
theorem dX6_branches_21 : decode cX6_branches 21 = .ok (.iconst 4, 1) := by decide +kernel
theorem dX6_branches_22 : decode cX6_branches 22 = .ok (.imul, 1) := by decide +kernel
theorem dX6_branches_23 : decode cX6_branches 23 = .ok (.iload 7, 2) := by decide +kernel
theorem dX6_branches_25 : decode cX6_branches 25 = .ok (.iadd, 1) := by decide +kernel
theorem dX6_branches_26 : decode cX6_branches 26 = .ok (.istore 8, 2) := by decide +kernel
theorem dX6_branches_28 : decode cX6_branches 28 = .ok (.iload_n 2, 1) := by decide +kernel
theorem dX6_branches_29 : decode cX6_branches 29 = .ok (.aload_n 0, 1) := by decide +kernel
theorem dX6_branches_30 : decode cX6_branches 30 = .ok (.getfield 39, 3) := by decide +kernel
theorem dX6_branches_33 : decode cX6_branches 33 = .ok (.iconst 1, 1) := by decide +kernel
theorem dX6_branches_34 : decode cX6_branches 34 = .ok (.isub, 1) := by decide +kernel
theorem dX6_branches_35 : decode cX6_branches 35 = .ok (.if_icmp .ne 15, 3) := by decide +kernel
theorem dX6_branches_38 : decode cX6_branches 38 = .ok (.iload 7, 2) := by decide +kernel
theorem dX6_branches_40 : decode cX6_branches 40 = .ok (.aload_n 0, 1) := by decide +kernel
theorem dX6_branches_41 : decode cX6_branches 41 = .ok (.getfield 35, 3) := by decide +kernel
theorem dX6_branches_44 : decode cX6_branches 44 = .ok (.if_icmp .eq 6, 3) := by decide +kernel
theorem dX6_branches_47 : decode cX6_branches 47 = .ok (.goto 73, 3) := by decide +kernel
theorem dX6_branches_50 : decode cX6_branches 50 = .ok (.aload_n 0, 1) := by decide +kernel
theorem dX6_branches_51 : decode cX6_branches 51 = .ok (.getfield 21, 3) := by decide +kernel
theorem dX6_branches_54 : decode cX6_branches 54 = .ok (.iload 8, 2) := by decide +kernel
theorem dX6_branches_56 : decode cX6_branches 56 = .ok (.laload, 1) := by decide +kernel
theorem dX6_branches_57 : decode cX6_branches 57 = .ok (.lload 5, 2) := by decide +kernel
theorem dX6_branches_59 : decode cX6_branches 59 = .ok (.lcmp, 1) := by decide +kernel
theorem dX6_branches_60 : decode cX6_branches 60 = .ok (.ifCond .eq 60, 3) := by decide +kernel
theorem dX6_branches_63 : decode cX6_branches 63 = .ok (.aload_n 1, 1) := by decide +kernel
theorem dX6_branches_64 : decode cX6_branches 64 = .ok (.iload 4, 2) := by decide +kernel
theorem dX6_branches_66 : decode cX6_branches 66 = .ok (.iload 7, 2) := by decide +kernel
theorem dX6_branches_68 : decode cX6_branches 68 = .ok (.invokestatic 103, 3) := by decide +kernel
theorem dX6_branches_71 : decode cX6_branches 71 = .ok (.iload_n 3, 1) := by decide +kernel
theorem dX6_branches_72 : decode cX6_branches 72 = .ok (.invokevirtual 106, 3) := by decide +kernel
theorem dX6_branches_75 : decode cX6_branches 75 = .ok (.ifCond .ne 6, 3) := by decide +kernel
theorem dX6_branches_78 : decode cX6_branches 78 = .ok (.goto 42, 3) := by decide +kernel
theorem dX6_branches_81 : decode cX6_branches 81 = .ok (.aload_n 0, 1) := by decide +kernel
theorem dX6_branches_82 : decode cX6_branches 82 = .ok (.getfield 21, 3) := by decide +kernel
theorem dX6_branches_85 : decode cX6_branches 85 = .ok (.iload 8, 2) := by decide +kernel
theorem dX6_branches_87 : decode cX6_branches 87 = .ok (.lload 5, 2) := by decide +kernel
theorem dX6_branches_89 : decode cX6_branches 89 = .ok (.lastore, 1) := by decide +kernel
theorem dX6_branches_90 : decode cX6_branches 90 = .ok (.aload_n 0, 1) := by decide +kernel
theorem dX6_branches_91 : decode cX6_branches 91 = .ok (.getfield 25, 3) := by decide +kernel
theorem dX6_branches_94 : decode cX6_branches 94 = .ok (.iload_n 2, 1) := by decide +kernel
theorem dX6_branches_95 : decode cX6_branches 95 = .ok (.iload_n 3, 1) := by decide +kernel
theorem dX6_branches_96 : decode cX6_branches 96 = .ok (.iconst 4, 1) := by decide +kernel
theorem dX6_branches_97 : decode cX6_branches 97 = .ok (.imul, 1) := by decide +kernel
theorem dX6_branches_98 : decode cX6_branches 98 = .ok (.iload 7, 2) := by decide +kernel
theorem dX6_branches_100 : decode cX6_branches 100 = .ok (.iadd, 1) := by decide +kernel
theorem dX6_branches_101 : decode cX6_branches 101 = .ok (.iastore, 1) := by decide +kernel
theorem dX6_branches_102 : decode cX6_branches 102 = .ok (.aload_n 0, 1) := by decide +kernel
theorem dX6_branches_103 : decode cX6_branches 103 = .ok (.aload_n 1, 1) := by decide +kernel
theorem dX6_branches_104 : decode cX6_branches 104 = .ok (.iload_n 2, 1) := by decide +kernel
theorem dX6_branches_105 : decode cX6_branches 105 = .ok (.iconst 1, 1) := by decide +kernel
theorem dX6_branches_106 : decode cX6_branches 106 = .ok (.iadd, 1) := by decide +kernel
theorem dX6_branches_107 : decode cX6_branches 107 = .ok (.iload_n 3, 1) := by decide +kernel
theorem dX6_branches_108 : decode cX6_branches 108 = .ok (.iload 7, 2) := by decide +kernel
theorem dX6_branches_110 : decode cX6_branches 110 = .ok (.lload 5, 2) := by decide +kernel
theorem dX6_branches_112 : decode cX6_branches 112 = .ok (.invokevirtual 46, 3) := by decide +kernel
theorem dX6_branches_115 : decode cX6_branches 115 = .ok (.ifCond .eq 5, 3) := by decide +kernel
theorem dX6_branches_118 : decode cX6_branches 118 = .ok (.iconst 1, 1) := by decide +kernel
theorem dX6_branches_119 : decode cX6_branches 119 = .ok (.ireturn, 1) := by decide +kernel
theorem dX6_branches_120 : decode cX6_branches 120 = .ok (.iinc 7 1, 3) := by decide +kernel
theorem dX6_branches_123 : decode cX6_branches 123 = .ok (.goto (-109), 3) := by decide +kernel
theorem dX6_branches_126 : decode cX6_branches 126 = .ok (.iconst 0, 1) := by decide +kernel
theorem dX6_branches_127 : decode cX6_branches 127 = .ok (.ireturn, 1) := by decide +kernel
set_option maxRecDepth 100000 in
theorem B_X6_branches_0 {d : Nat} {h : AbH} {K : Option AbV → AbH → Prop} {x0 : Nat} {x1 : Option Nat} {x2 : Int} {x3 : Int} {x4 : Int} {x5 : Int} (hh : Vm d m_X9_within [vI x2, vI 0, vI 2] h (kI (fun n2 h1 => ((n2 ≠ 0 → Vx (d + 1) m_X6_branches 0 0 14 [some (vR (some x0)), some (vR x1), some (vI x2), some (vI x3), some (vI x4), some (vL x5), none, some (vI 0), none] [] h1 K) ∧ (¬ (n2 ≠ 0) → K (some (vI 0)) h1))))) : Vx (d + 1) m_X6_branches 0 0 0 [some (vR (some x0)), some (vR x1), some (vI x2), some (vI x3), some (vI x4), some (vL x5), none] [] h K := by
  refine Vx.pad 2 [some (vR (some x0)), some (vR x1), some (vI x2), some (vI x3), some (vI x4), some (vL x5), none, none, none] rfl ?_
  refine rr_iload_n dX6_branches_0 rfl rfl ?_
  refine rr_iconst dX6_branches_1 rfl ⟨by decide, by decide⟩ ?_
  refine rr_iconst dX6_branches_2 rfl ⟨by decide, by decide⟩ ?_
  refine rr_callSN (bc' := 0) (bs' := 0) (av := [vI x2, vI 0, vI 2]) (st := []) mf_X9_within dX6_branches_3 rfl qn_14 q_197 rfl (by decide) (Nat.le_refl _) (Nat.le_refl _) hh (rr_kI fun n2 h1 hh => ?_)
  refine rr_if_ne (tgt := 11) dX6_branches_6 rfl (by decide) (fun hc6 => ?_) (fun hc6 => ?_)
  · have hh := hh.1 hc6
    refine rr_iconst dX6_branches_11 rfl ⟨by decide, by decide⟩ ?_
    refine rr_istore (ls' := [some (vR (some x0)), some (vR x1), some (vI x2), some (vI x3), some (vI x4), some (vL x5), none, some (vI 0), none]) dX6_branches_12 rfl (by decide) (fun _ z => by cases z) rfl ?_
    exact hh
  · have hh := hh.2 hc6
    refine rr_iconst dX6_branches_9 rfl ⟨by decide, by decide⟩ ?_
    exact rr_zret dX6_branches_10 rfl rfl hh
set_option maxRecDepth 100000 in
theorem B_X6_branches_14 {d : Nat} {h : AbH} {K : Option AbV → AbH → Prop} {x0 : Nat} {x1 : Option Nat} {x2 : Int} {x3 : Int} {x4 : Int} {x5 : Int} {x7 : Int} {bc bs : Nat} (hh : ((4 ≤ x7 → K (some (vI 0)) h) ∧ (¬ (4 ≤ x7) → in32 (x2 * 4) ∧ in32 ((x2 * 4) + x7) ∧ wpGI h (some x0) 5 6 (fun n3 => in32 (n3 - 1) ∧ ((x2 ≠ (n3 - 1) → wpGR h (some x0) 5 2 (fun r5 => wpLJ h r5 ((x2 * 4) + x7) (fun n6 => ((n6 = x5 → in32 (x7 + 1) ∧ Vx (d + 1) m_X6_branches bc bs 14 [some (vR (some x0)), some (vR x1), some (vI x2), some (vI x3), some (vI x4), some (vL x5), none, some (vI (x7 + 1)), none] [] h K) ∧ (¬ (n6 = x5) → Vm d m_X9_pairOf [vI x4, vI x7] h (kI (fun n9 h8 => wpCV h8 x1 7 (fun b24 => Vm d m_X8_isMeeting [vR (some b24), vI n9, vI x3] h8 (kI (fun n11 h10 => ((n11 ≠ 0 → wpGR h10 (some x0) 5 2 (fun r12 => wpSJ h10 r12 ((x2 * 4) + x7) x5 (fun h13 => wpGR h13 (some x0) 5 3 (fun r14 => in32 (x3 * 4) ∧ in32 ((x3 * 4) + x7) ∧ wpSI h13 r14 x2 ((x3 * 4) + x7) (fun h17 => in32 (x2 + 1) ∧ wpCV h17 (some x0) 5 (fun b22 => Vm d m_X6_leads [vR (some b22), vR x1, vI (x2 + 1), vI x3, vI x7, vL x5] h17 (kI (fun n20 h19 => ((n20 = 0 → in32 (x7 + 1) ∧ Vx (d + 1) m_X6_branches bc bs 14 [some (vR (some x0)), some (vR x1), some (vI x2), some (vI x3), some (vI x4), some (vL x5), none, some (vI (x7 + 1)), none] [] h19 K) ∧ (¬ (n20 = 0) → K (some (vI 1)) h19)))))))))) ∧ (¬ (n11 ≠ 0) → in32 (x7 + 1) ∧ Vx (d + 1) m_X6_branches bc bs 14 [some (vR (some x0)), some (vR x1), some (vI x2), some (vI x3), some (vI x4), some (vL x5), none, some (vI (x7 + 1)), none] [] h10 K)))))))))))) ∧ (¬ (x2 ≠ (n3 - 1)) → wpGI h (some x0) 5 5 (fun n25 => ((x7 = n25 → wpGR h (some x0) 5 2 (fun r26 => wpLJ h r26 ((x2 * 4) + x7) (fun n27 => ((n27 = x5 → in32 (x7 + 1) ∧ Vx (d + 1) m_X6_branches bc bs 14 [some (vR (some x0)), some (vR x1), some (vI x2), some (vI x3), some (vI x4), some (vL x5), none, some (vI (x7 + 1)), none] [] h K) ∧ (¬ (n27 = x5) → Vm d m_X9_pairOf [vI x4, vI x7] h (kI (fun n30 h29 => wpCV h29 x1 7 (fun b45 => Vm d m_X8_isMeeting [vR (some b45), vI n30, vI x3] h29 (kI (fun n32 h31 => ((n32 ≠ 0 → wpGR h31 (some x0) 5 2 (fun r33 => wpSJ h31 r33 ((x2 * 4) + x7) x5 (fun h34 => wpGR h34 (some x0) 5 3 (fun r35 => in32 (x3 * 4) ∧ in32 ((x3 * 4) + x7) ∧ wpSI h34 r35 x2 ((x3 * 4) + x7) (fun h38 => in32 (x2 + 1) ∧ wpCV h38 (some x0) 5 (fun b43 => Vm d m_X6_leads [vR (some b43), vR x1, vI (x2 + 1), vI x3, vI x7, vL x5] h38 (kI (fun n41 h40 => ((n41 = 0 → in32 (x7 + 1) ∧ Vx (d + 1) m_X6_branches bc bs 14 [some (vR (some x0)), some (vR x1), some (vI x2), some (vI x3), some (vI x4), some (vL x5), none, some (vI (x7 + 1)), none] [] h40 K) ∧ (¬ (n41 = 0) → K (some (vI 1)) h40)))))))))) ∧ (¬ (n32 ≠ 0) → in32 (x7 + 1) ∧ Vx (d + 1) m_X6_branches bc bs 14 [some (vR (some x0)), some (vR x1), some (vI x2), some (vI x3), some (vI x4), some (vL x5), none, some (vI (x7 + 1)), none] [] h31 K)))))))))))) ∧ (¬ (x7 = n25) → in32 (x7 + 1) ∧ Vx (d + 1) m_X6_branches bc bs 14 [some (vR (some x0)), some (vR x1), some (vI x2), some (vI x3), some (vI x4), some (vL x5), none, some (vI (x7 + 1)), none] [] h K))))))))) : Vx (d + 1) m_X6_branches bc bs 14 [some (vR (some x0)), some (vR x1), some (vI x2), some (vI x3), some (vI x4), some (vL x5), none, some (vI x7), none] [] h K := by
  refine rr_iload dX6_branches_14 rfl rfl ?_
  refine rr_iconst dX6_branches_16 rfl ⟨by decide, by decide⟩ ?_
  refine rr_icmp_ge (tgt := 126) dX6_branches_17 rfl (by decide) (fun hc17 => ?_) (fun hc17 => ?_)
  · have hh := hh.1 hc17
    refine rr_iconst dX6_branches_126 rfl ⟨by decide, by decide⟩ ?_
    exact rr_zret dX6_branches_127 rfl rfl hh
  · have hh := hh.2 hc17
    refine rr_iload_n dX6_branches_20 rfl rfl ?_
    refine rr_iconst dX6_branches_21 rfl ⟨by decide, by decide⟩ ?_
    obtain ⟨hz1, hh⟩ := hh
    refine rr_imul dX6_branches_22 rfl hz1 ?_
    refine rr_iload dX6_branches_23 rfl rfl ?_
    obtain ⟨hz2, hh⟩ := hh
    refine rr_iadd dX6_branches_25 rfl hz2 ?_
    refine rr_istore (ls' := [some (vR (some x0)), some (vR x1), some (vI x2), some (vI x3), some (vI x4), some (vL x5), none, some (vI x7), some (vI ((x2 * 4) + x7))]) dX6_branches_26 rfl (by decide) (fun _ z => by cases z) rfl ?_
    refine rr_iload_n dX6_branches_28 rfl rfl ?_
    refine rr_aload_n dX6_branches_29 rfl rfl ?_
    refine rr_getI cf_X6 (j := 6) (by decide) dX6_branches_30 rfl q_151 hh (fun n3 hh => ?_)
    refine rr_iconst dX6_branches_33 rfl ⟨by decide, by decide⟩ ?_
    obtain ⟨hz4, hh⟩ := hh
    refine rr_isub dX6_branches_34 rfl hz4 ?_
    refine rr_icmp_ne (tgt := 50) dX6_branches_35 rfl (by decide) (fun hc35 => ?_) (fun hc35 => ?_)
    · have hh := hh.1 hc35
      refine rr_aload_n dX6_branches_50 rfl rfl ?_
      refine rr_getR cf_X6 (j := 2) (by decide) dX6_branches_51 rfl q_147 hh (fun r5 hh => ?_)
      refine rr_iload dX6_branches_54 rfl rfl ?_
      refine rr_lald dX6_branches_56 rfl hh (fun n6 hh => ?_)
      refine rr_lload dX6_branches_57 rfl rfl ?_
      refine rr_lcmp dX6_branches_59 rfl ?_
      refine rr_if_eq (tgt := 120) dX6_branches_60 rfl (by decide) (fun hc60 => ?_) (fun hc60 => ?_)
      · have hh := hh.1 (lcm_eq.mp hc60)
        obtain ⟨hz7, hh⟩ := hh
        refine rr_iinc (ls' := [some (vR (some x0)), some (vR x1), some (vI x2), some (vI x3), some (vI x4), some (vL x5), none, some (vI (x7 + 1)), some (vI ((x2 * 4) + x7))]) dX6_branches_120 rfl rfl (by decide) (fun _ z => by cases z) hz7 rfl ?_
        refine rr_goto (pc' := 14) dX6_branches_123 (by decide) ?_
        exact Vx.forget (ls' := [some (vR (some x0)), some (vR x1), some (vI x2), some (vI x3), some (vI x4), some (vL x5), none, some (vI (x7 + 1)), none]) (And.intro rfl (And.intro rfl (And.intro rfl (And.intro rfl (And.intro rfl (And.intro rfl (And.intro rfl trivial))))))) hh
      · have hh := hh.2 (fun z => hc60 (lcm_eq.mpr z))
        refine rr_aload_n dX6_branches_63 rfl rfl ?_
        refine rr_iload dX6_branches_64 rfl rfl ?_
        refine rr_iload dX6_branches_66 rfl rfl ?_
        refine rr_callSN (bc' := bc) (bs' := bs) (av := [vI x4, vI x7]) (st := [vR x1]) mf_X9_pairOf dX6_branches_68 rfl qn_15 q_381 rfl (cs_le _ (Nat.le_of_ble_eq_true rfl)) (Nat.le_refl _) (Nat.le_refl _) hh (rr_kI fun n9 h8 hh => ?_)
        refine rr_iload_n dX6_branches_71 rfl rfl ?_
        refine rr_callW (bc' := bc) (bs' := bs) (q := x1) (av := [vI n9, vI x3]) (st := []) mf_X8_isMeeting dX6_branches_72 rfl q_709 q_710 q_711 ⟨_, _, rfl⟩ rfl (by decide) (Nat.le_refl _) (Nat.le_refl _) hh (rr_kI fun n11 h10 hh => ?_)
        refine rr_if_ne (tgt := 81) dX6_branches_75 rfl (by decide) (fun hc75 => ?_) (fun hc75 => ?_)
        · have hh := hh.1 hc75
          refine rr_aload_n dX6_branches_81 rfl rfl ?_
          refine rr_getR cf_X6 (j := 2) (by decide) dX6_branches_82 rfl q_147 hh (fun r12 hh => ?_)
          refine rr_iload dX6_branches_85 rfl rfl ?_
          refine rr_lload dX6_branches_87 rfl rfl ?_
          refine rr_last dX6_branches_89 rfl hh (fun h13 hh => ?_)
          refine rr_aload_n dX6_branches_90 rfl rfl ?_
          refine rr_getR cf_X6 (j := 3) (by decide) dX6_branches_91 rfl q_148 hh (fun r14 hh => ?_)
          refine rr_iload_n dX6_branches_94 rfl rfl ?_
          refine rr_iload_n dX6_branches_95 rfl rfl ?_
          refine rr_iconst dX6_branches_96 rfl ⟨by decide, by decide⟩ ?_
          obtain ⟨hz15, hh⟩ := hh
          refine rr_imul dX6_branches_97 rfl hz15 ?_
          refine rr_iload dX6_branches_98 rfl rfl ?_
          obtain ⟨hz16, hh⟩ := hh
          refine rr_iadd dX6_branches_100 rfl hz16 ?_
          refine rr_iast dX6_branches_101 rfl hh (fun h17 hh => ?_)
          refine rr_aload_n dX6_branches_102 rfl rfl ?_
          refine rr_aload_n dX6_branches_103 rfl rfl ?_
          refine rr_iload_n dX6_branches_104 rfl rfl ?_
          refine rr_iconst dX6_branches_105 rfl ⟨by decide, by decide⟩ ?_
          obtain ⟨hz18, hh⟩ := hh
          refine rr_iadd dX6_branches_106 rfl hz18 ?_
          refine rr_iload_n dX6_branches_107 rfl rfl ?_
          refine rr_iload dX6_branches_108 rfl rfl ?_
          refine rr_lload dX6_branches_110 rfl rfl ?_
          refine rr_callW (bc' := bc) (bs' := bs) (q := (some x0)) (av := [vR x1, vI (x2 + 1), vI x3, vI x7, vL x5]) (st := []) mf_X6_leads dX6_branches_112 rfl q_696 q_698 qs_18 ⟨_, _, rfl⟩ rfl (by decide) (Nat.le_refl _) (Nat.le_refl _) hh (rr_kI fun n20 h19 hh => ?_)
          refine rr_if_eq (tgt := 120) dX6_branches_115 rfl (by decide) (fun hc115 => ?_) (fun hc115 => ?_)
          · have hh := hh.1 hc115
            obtain ⟨hz21, hh⟩ := hh
            refine rr_iinc (ls' := [some (vR (some x0)), some (vR x1), some (vI x2), some (vI x3), some (vI x4), some (vL x5), none, some (vI (x7 + 1)), some (vI ((x2 * 4) + x7))]) dX6_branches_120 rfl rfl (by decide) (fun _ z => by cases z) hz21 rfl ?_
            refine rr_goto (pc' := 14) dX6_branches_123 (by decide) ?_
            exact Vx.forget (ls' := [some (vR (some x0)), some (vR x1), some (vI x2), some (vI x3), some (vI x4), some (vL x5), none, some (vI (x7 + 1)), none]) (And.intro rfl (And.intro rfl (And.intro rfl (And.intro rfl (And.intro rfl (And.intro rfl (And.intro rfl trivial))))))) hh
          · have hh := hh.2 hc115
            refine rr_iconst dX6_branches_118 rfl ⟨by decide, by decide⟩ ?_
            exact rr_zret dX6_branches_119 rfl rfl hh
        · have hh := hh.2 hc75
          refine rr_goto (pc' := 120) dX6_branches_78 (by decide) ?_
          obtain ⟨hz23, hh⟩ := hh
          refine rr_iinc (ls' := [some (vR (some x0)), some (vR x1), some (vI x2), some (vI x3), some (vI x4), some (vL x5), none, some (vI (x7 + 1)), some (vI ((x2 * 4) + x7))]) dX6_branches_120 rfl rfl (by decide) (fun _ z => by cases z) hz23 rfl ?_
          refine rr_goto (pc' := 14) dX6_branches_123 (by decide) ?_
          exact Vx.forget (ls' := [some (vR (some x0)), some (vR x1), some (vI x2), some (vI x3), some (vI x4), some (vL x5), none, some (vI (x7 + 1)), none]) (And.intro rfl (And.intro rfl (And.intro rfl (And.intro rfl (And.intro rfl (And.intro rfl (And.intro rfl trivial))))))) hh
    · have hh := hh.2 hc35
      refine rr_iload dX6_branches_38 rfl rfl ?_
      refine rr_aload_n dX6_branches_40 rfl rfl ?_
      refine rr_getI cf_X6 (j := 5) (by decide) dX6_branches_41 rfl q_150 hh (fun n25 hh => ?_)
      refine rr_icmp_eq (tgt := 50) dX6_branches_44 rfl (by decide) (fun hc44 => ?_) (fun hc44 => ?_)
      · have hh := hh.1 hc44
        refine rr_aload_n dX6_branches_50 rfl rfl ?_
        refine rr_getR cf_X6 (j := 2) (by decide) dX6_branches_51 rfl q_147 hh (fun r26 hh => ?_)
        refine rr_iload dX6_branches_54 rfl rfl ?_
        refine rr_lald dX6_branches_56 rfl hh (fun n27 hh => ?_)
        refine rr_lload dX6_branches_57 rfl rfl ?_
        refine rr_lcmp dX6_branches_59 rfl ?_
        refine rr_if_eq (tgt := 120) dX6_branches_60 rfl (by decide) (fun hc60 => ?_) (fun hc60 => ?_)
        · have hh := hh.1 (lcm_eq.mp hc60)
          obtain ⟨hz28, hh⟩ := hh
          refine rr_iinc (ls' := [some (vR (some x0)), some (vR x1), some (vI x2), some (vI x3), some (vI x4), some (vL x5), none, some (vI (x7 + 1)), some (vI ((x2 * 4) + x7))]) dX6_branches_120 rfl rfl (by decide) (fun _ z => by cases z) hz28 rfl ?_
          refine rr_goto (pc' := 14) dX6_branches_123 (by decide) ?_
          exact Vx.forget (ls' := [some (vR (some x0)), some (vR x1), some (vI x2), some (vI x3), some (vI x4), some (vL x5), none, some (vI (x7 + 1)), none]) (And.intro rfl (And.intro rfl (And.intro rfl (And.intro rfl (And.intro rfl (And.intro rfl (And.intro rfl trivial))))))) hh
        · have hh := hh.2 (fun z => hc60 (lcm_eq.mpr z))
          refine rr_aload_n dX6_branches_63 rfl rfl ?_
          refine rr_iload dX6_branches_64 rfl rfl ?_
          refine rr_iload dX6_branches_66 rfl rfl ?_
          refine rr_callSN (bc' := bc) (bs' := bs) (av := [vI x4, vI x7]) (st := [vR x1]) mf_X9_pairOf dX6_branches_68 rfl qn_15 q_381 rfl (cs_le _ (Nat.le_of_ble_eq_true rfl)) (Nat.le_refl _) (Nat.le_refl _) hh (rr_kI fun n30 h29 hh => ?_)
          refine rr_iload_n dX6_branches_71 rfl rfl ?_
          refine rr_callW (bc' := bc) (bs' := bs) (q := x1) (av := [vI n30, vI x3]) (st := []) mf_X8_isMeeting dX6_branches_72 rfl q_709 q_710 q_711 ⟨_, _, rfl⟩ rfl (by decide) (Nat.le_refl _) (Nat.le_refl _) hh (rr_kI fun n32 h31 hh => ?_)
          refine rr_if_ne (tgt := 81) dX6_branches_75 rfl (by decide) (fun hc75 => ?_) (fun hc75 => ?_)
          · have hh := hh.1 hc75
            refine rr_aload_n dX6_branches_81 rfl rfl ?_
            refine rr_getR cf_X6 (j := 2) (by decide) dX6_branches_82 rfl q_147 hh (fun r33 hh => ?_)
            refine rr_iload dX6_branches_85 rfl rfl ?_
            refine rr_lload dX6_branches_87 rfl rfl ?_
            refine rr_last dX6_branches_89 rfl hh (fun h34 hh => ?_)
            refine rr_aload_n dX6_branches_90 rfl rfl ?_
            refine rr_getR cf_X6 (j := 3) (by decide) dX6_branches_91 rfl q_148 hh (fun r35 hh => ?_)
            refine rr_iload_n dX6_branches_94 rfl rfl ?_
            refine rr_iload_n dX6_branches_95 rfl rfl ?_
            refine rr_iconst dX6_branches_96 rfl ⟨by decide, by decide⟩ ?_
            obtain ⟨hz36, hh⟩ := hh
            refine rr_imul dX6_branches_97 rfl hz36 ?_
            refine rr_iload dX6_branches_98 rfl rfl ?_
            obtain ⟨hz37, hh⟩ := hh
            refine rr_iadd dX6_branches_100 rfl hz37 ?_
            refine rr_iast dX6_branches_101 rfl hh (fun h38 hh => ?_)
            refine rr_aload_n dX6_branches_102 rfl rfl ?_
            refine rr_aload_n dX6_branches_103 rfl rfl ?_
            refine rr_iload_n dX6_branches_104 rfl rfl ?_
            refine rr_iconst dX6_branches_105 rfl ⟨by decide, by decide⟩ ?_
            obtain ⟨hz39, hh⟩ := hh
            refine rr_iadd dX6_branches_106 rfl hz39 ?_
            refine rr_iload_n dX6_branches_107 rfl rfl ?_
            refine rr_iload dX6_branches_108 rfl rfl ?_
            refine rr_lload dX6_branches_110 rfl rfl ?_
            refine rr_callW (bc' := bc) (bs' := bs) (q := (some x0)) (av := [vR x1, vI (x2 + 1), vI x3, vI x7, vL x5]) (st := []) mf_X6_leads dX6_branches_112 rfl q_696 q_698 qs_18 ⟨_, _, rfl⟩ rfl (by decide) (Nat.le_refl _) (Nat.le_refl _) hh (rr_kI fun n41 h40 hh => ?_)
            refine rr_if_eq (tgt := 120) dX6_branches_115 rfl (by decide) (fun hc115 => ?_) (fun hc115 => ?_)
            · have hh := hh.1 hc115
              obtain ⟨hz42, hh⟩ := hh
              refine rr_iinc (ls' := [some (vR (some x0)), some (vR x1), some (vI x2), some (vI x3), some (vI x4), some (vL x5), none, some (vI (x7 + 1)), some (vI ((x2 * 4) + x7))]) dX6_branches_120 rfl rfl (by decide) (fun _ z => by cases z) hz42 rfl ?_
              refine rr_goto (pc' := 14) dX6_branches_123 (by decide) ?_
              exact Vx.forget (ls' := [some (vR (some x0)), some (vR x1), some (vI x2), some (vI x3), some (vI x4), some (vL x5), none, some (vI (x7 + 1)), none]) (And.intro rfl (And.intro rfl (And.intro rfl (And.intro rfl (And.intro rfl (And.intro rfl (And.intro rfl trivial))))))) hh
            · have hh := hh.2 hc115
              refine rr_iconst dX6_branches_118 rfl ⟨by decide, by decide⟩ ?_
              exact rr_zret dX6_branches_119 rfl rfl hh
          · have hh := hh.2 hc75
            refine rr_goto (pc' := 120) dX6_branches_78 (by decide) ?_
            obtain ⟨hz44, hh⟩ := hh
            refine rr_iinc (ls' := [some (vR (some x0)), some (vR x1), some (vI x2), some (vI x3), some (vI x4), some (vL x5), none, some (vI (x7 + 1)), some (vI ((x2 * 4) + x7))]) dX6_branches_120 rfl rfl (by decide) (fun _ z => by cases z) hz44 rfl ?_
            refine rr_goto (pc' := 14) dX6_branches_123 (by decide) ?_
            exact Vx.forget (ls' := [some (vR (some x0)), some (vR x1), some (vI x2), some (vI x3), some (vI x4), some (vL x5), none, some (vI (x7 + 1)), none]) (And.intro rfl (And.intro rfl (And.intro rfl (And.intro rfl (And.intro rfl (And.intro rfl (And.intro rfl trivial))))))) hh
      · have hh := hh.2 hc44
        refine rr_goto (pc' := 120) dX6_branches_47 (by decide) ?_
        obtain ⟨hz46, hh⟩ := hh
        refine rr_iinc (ls' := [some (vR (some x0)), some (vR x1), some (vI x2), some (vI x3), some (vI x4), some (vL x5), none, some (vI (x7 + 1)), some (vI ((x2 * 4) + x7))]) dX6_branches_120 rfl rfl (by decide) (fun _ z => by cases z) hz46 rfl ?_
        refine rr_goto (pc' := 14) dX6_branches_123 (by decide) ?_
        exact Vx.forget (ls' := [some (vR (some x0)), some (vR x1), some (vI x2), some (vI x3), some (vI x4), some (vL x5), none, some (vI (x7 + 1)), none]) (And.intro rfl (And.intro rfl (And.intro rfl (And.intro rfl (And.intro rfl (And.intro rfl (And.intro rfl trivial))))))) hh
theorem dX6_ageTried_0 : decode cX6_ageTried 0 = .ok (.iconst 0, 1) := by decide +kernel
theorem dX6_ageTried_1 : decode cX6_ageTried 1 = .ok (.istore_n 3, 1) := by decide +kernel
theorem dX6_ageTried_2 : decode cX6_ageTried 2 = .ok (.iload_n 3, 1) := by decide +kernel
theorem dX6_ageTried_3 : decode cX6_ageTried 3 = .ok (.iconst 4, 1) := by decide +kernel
theorem dX6_ageTried_4 : decode cX6_ageTried 4 = .ok (.if_icmp .ge 50, 3) := by decide +kernel
theorem dX6_ageTried_7 : decode cX6_ageTried 7 = .ok (.iload_n 1, 1) := by decide +kernel
theorem dX6_ageTried_8 : decode cX6_ageTried 8 = .ok (.iconst 4, 1) := by decide +kernel
theorem dX6_ageTried_9 : decode cX6_ageTried 9 = .ok (.imul, 1) := by decide +kernel
theorem dX6_ageTried_10 : decode cX6_ageTried 10 = .ok (.iload_n 3, 1) := by decide +kernel
theorem dX6_ageTried_11 : decode cX6_ageTried 11 = .ok (.iadd, 1) := by decide +kernel
theorem dX6_ageTried_12 : decode cX6_ageTried 12 = .ok (.istore 4, 2) := by decide +kernel
theorem dX6_ageTried_14 : decode cX6_ageTried 14 = .ok (.aload_n 0, 1) := by decide +kernel
theorem dX6_ageTried_15 : decode cX6_ageTried 15 = .ok (.getfield 21, 3) := by decide +kernel
theorem dX6_ageTried_18 : decode cX6_ageTried 18 = .ok (.iload 4, 2) := by decide +kernel
theorem dX6_ageTried_20 : decode cX6_ageTried 20 = .ok (.laload, 1) := by decide +kernel
theorem dX6_ageTried_21 : decode cX6_ageTried 21 = .ok (.ldc2_w 87, 3) := by decide +kernel
theorem dX6_ageTried_24 : decode cX6_ageTried 24 = .ok (.lcmp, 1) := by decide +kernel
theorem dX6_ageTried_25 : decode cX6_ageTried 25 = .ok (.ifCond .eq 23, 3) := by decide +kernel
theorem dX6_ageTried_28 : decode cX6_ageTried 28 = .ok (.aload_n 0, 1) := by decide +kernel
theorem dX6_ageTried_29 : decode cX6_ageTried 29 = .ok (.getfield 21, 3) := by decide +kernel
theorem dX6_ageTried_32 : decode cX6_ageTried 32 = .ok (.iload 4, 2) := by decide +kernel
theorem dX6_ageTried_34 : decode cX6_ageTried 34 = .ok (.aload_n 0, 1) := by decide +kernel
theorem dX6_ageTried_35 : decode cX6_ageTried 35 = .ok (.aload_n 0, 1) := by decide +kernel
theorem dX6_ageTried_36 : decode cX6_ageTried 36 = .ok (.getfield 21, 3) := by decide +kernel
theorem dX6_ageTried_39 : decode cX6_ageTried 39 = .ok (.iload 4, 2) := by decide +kernel
theorem dX6_ageTried_41 : decode cX6_ageTried 41 = .ok (.laload, 1) := by decide +kernel
theorem dX6_ageTried_42 : decode cX6_ageTried 42 = .ok (.iload_n 3, 1) := by decide +kernel
theorem dX6_ageTried_43 : decode cX6_ageTried 43 = .ok (.iload_n 2, 1) := by decide +kernel
theorem dX6_ageTried_44 : decode cX6_ageTried 44 = .ok (.invokevirtual 95, 3) := by decide +kernel
theorem dX6_ageTried_47 : decode cX6_ageTried 47 = .ok (.lastore, 1) := by decide +kernel
theorem dX6_ageTried_48 : decode cX6_ageTried 48 = .ok (.iinc 3 1, 3) := by decide +kernel
theorem dX6_ageTried_51 : decode cX6_ageTried 51 = .ok (.goto (-49), 3) := by decide +kernel
theorem dX6_ageTried_54 : decode cX6_ageTried 54 = .ok (.return_, 1) := by decide +kernel
set_option maxRecDepth 100000 in
theorem B_X6_ageTried_0 {d : Nat} {h : AbH} {K : Option AbV → AbH → Prop} {x0 : Nat} {x1 : Int} {x2 : Int} (hh : Vx (d + 1) m_X6_ageTried 0 0 2 [some (vR (some x0)), some (vI x1), some (vI x2), some (vI 0), none] [] h K) : Vx (d + 1) m_X6_ageTried 0 0 0 [some (vR (some x0)), some (vI x1), some (vI x2)] [] h K := by
  refine Vx.pad 2 [some (vR (some x0)), some (vI x1), some (vI x2), none, none] rfl ?_
  refine rr_iconst dX6_ageTried_0 rfl ⟨by decide, by decide⟩ ?_
  refine rr_istore_n (ls' := [some (vR (some x0)), some (vI x1), some (vI x2), some (vI 0), none]) dX6_ageTried_1 rfl (by decide) (fun _ z => by cases z) rfl ?_
  exact hh
set_option maxRecDepth 100000 in
theorem B_X6_ageTried_2 {d : Nat} {h : AbH} {K : Option AbV → AbH → Prop} {x0 : Nat} {x1 : Int} {x2 : Int} {x3 : Int} {bc bs : Nat} (hh : ((4 ≤ x3 → K none h) ∧ (¬ (4 ≤ x3) → in32 (x1 * 4) ∧ in32 ((x1 * 4) + x3) ∧ wpGR h (some x0) 5 2 (fun r3 => wpLJ h r3 ((x1 * 4) + x3) (fun n4 => ((((n4 : Int) = (-1)) → in32 (x3 + 1) ∧ Vx (d + 1) m_X6_ageTried bc bs 2 [some (vR (some x0)), some (vI x1), some (vI x2), some (vI (x3 + 1)), none] [] h K) ∧ (¬ (((n4 : Int) = (-1))) → wpGR h (some x0) 5 2 (fun r6 => wpGR h (some x0) 5 2 (fun r7 => wpLJ h r7 ((x1 * 4) + x3) (fun n8 => wpCV h (some x0) 5 (fun b13 => Vm d m_X6_changed [vR (some b13), vL n8, vI x3, vI x2] h (kL (fun n10 h9 => wpSJ h9 r6 ((x1 * 4) + x3) n10 (fun h11 => in32 (x3 + 1) ∧ Vx (d + 1) m_X6_ageTried bc bs 2 [some (vR (some x0)), some (vI x1), some (vI x2), some (vI (x3 + 1)), none] [] h11 K)))))))))))))) : Vx (d + 1) m_X6_ageTried bc bs 2 [some (vR (some x0)), some (vI x1), some (vI x2), some (vI x3), none] [] h K := by
  refine rr_iload_n dX6_ageTried_2 rfl rfl ?_
  refine rr_iconst dX6_ageTried_3 rfl ⟨by decide, by decide⟩ ?_
  refine rr_icmp_ge (tgt := 54) dX6_ageTried_4 rfl (by decide) (fun hc4 => ?_) (fun hc4 => ?_)
  · have hh := hh.1 hc4
    exact rr_vret dX6_ageTried_54 rfl hh
  · have hh := hh.2 hc4
    refine rr_iload_n dX6_ageTried_7 rfl rfl ?_
    refine rr_iconst dX6_ageTried_8 rfl ⟨by decide, by decide⟩ ?_
    obtain ⟨hz1, hh⟩ := hh
    refine rr_imul dX6_ageTried_9 rfl hz1 ?_
    refine rr_iload_n dX6_ageTried_10 rfl rfl ?_
    obtain ⟨hz2, hh⟩ := hh
    refine rr_iadd dX6_ageTried_11 rfl hz2 ?_
    refine rr_istore (ls' := [some (vR (some x0)), some (vI x1), some (vI x2), some (vI x3), some (vI ((x1 * 4) + x3))]) dX6_ageTried_12 rfl (by decide) (fun _ z => by cases z) rfl ?_
    refine rr_aload_n dX6_ageTried_14 rfl rfl ?_
    refine rr_getR cf_X6 (j := 2) (by decide) dX6_ageTried_15 rfl q_147 hh (fun r3 hh => ?_)
    refine rr_iload dX6_ageTried_18 rfl rfl ?_
    refine rr_lald dX6_ageTried_20 rfl hh (fun n4 hh => ?_)
    refine rr_ldc2 (n := -1) dX6_ageTried_21 rfl q_703 (by decide) ⟨by decide, by decide⟩ ?_
    refine rr_lcmp dX6_ageTried_24 rfl ?_
    refine rr_if_eq (tgt := 48) dX6_ageTried_25 rfl (by decide) (fun hc25 => ?_) (fun hc25 => ?_)
    · have hh := hh.1 (lcm_eq.mp hc25)
      obtain ⟨hz5, hh⟩ := hh
      refine rr_iinc (ls' := [some (vR (some x0)), some (vI x1), some (vI x2), some (vI (x3 + 1)), some (vI ((x1 * 4) + x3))]) dX6_ageTried_48 rfl rfl (by decide) (fun _ z => by cases z) hz5 rfl ?_
      refine rr_goto (pc' := 2) dX6_ageTried_51 (by decide) ?_
      exact Vx.forget (ls' := [some (vR (some x0)), some (vI x1), some (vI x2), some (vI (x3 + 1)), none]) (And.intro rfl (And.intro rfl (And.intro rfl (And.intro rfl trivial)))) hh
    · have hh := hh.2 (fun z => hc25 (lcm_eq.mpr z))
      refine rr_aload_n dX6_ageTried_28 rfl rfl ?_
      refine rr_getR cf_X6 (j := 2) (by decide) dX6_ageTried_29 rfl q_147 hh (fun r6 hh => ?_)
      refine rr_iload dX6_ageTried_32 rfl rfl ?_
      refine rr_aload_n dX6_ageTried_34 rfl rfl ?_
      refine rr_aload_n dX6_ageTried_35 rfl rfl ?_
      refine rr_getR cf_X6 (j := 2) (by decide) dX6_ageTried_36 rfl q_147 hh (fun r7 hh => ?_)
      refine rr_iload dX6_ageTried_39 rfl rfl ?_
      refine rr_lald dX6_ageTried_41 rfl hh (fun n8 hh => ?_)
      refine rr_iload_n dX6_ageTried_42 rfl rfl ?_
      refine rr_iload_n dX6_ageTried_43 rfl rfl ?_
      refine rr_callW (bc' := bc) (bs' := bs) (q := (some x0)) (av := [vL n8, vI x3, vI x2]) (st := [vI ((x1 * 4) + x3), vR r6]) mf_X6_changed dX6_ageTried_44 rfl q_719 q_721 qs_21 ⟨_, _, rfl⟩ rfl (cs_le _ (Nat.le_of_ble_eq_true rfl)) (Nat.le_refl _) (Nat.le_refl _) hh (rr_kL fun n10 h9 hh => ?_)
      refine rr_last dX6_ageTried_47 rfl hh (fun h11 hh => ?_)
      obtain ⟨hz12, hh⟩ := hh
      refine rr_iinc (ls' := [some (vR (some x0)), some (vI x1), some (vI x2), some (vI (x3 + 1)), some (vI ((x1 * 4) + x3))]) dX6_ageTried_48 rfl rfl (by decide) (fun _ z => by cases z) hz12 rfl ?_
      refine rr_goto (pc' := 2) dX6_ageTried_51 (by decide) ?_
      exact Vx.forget (ls' := [some (vR (some x0)), some (vI x1), some (vI x2), some (vI (x3 + 1)), none]) (And.intro rfl (And.intro rfl (And.intro rfl (And.intro rfl trivial)))) hh
theorem dX6_isBusy_0 : decode cX6_isBusy 0 = .ok (.iload_n 1, 1) := by decide +kernel
theorem dX6_isBusy_1 : decode cX6_isBusy 1 = .ok (.invokestatic 63, 3) := by decide +kernel
theorem dX6_isBusy_4 : decode cX6_isBusy 4 = .ok (.ifCond .eq 16, 3) := by decide +kernel
theorem dX6_isBusy_7 : decode cX6_isBusy 7 = .ok (.aload_n 0, 1) := by decide +kernel
theorem dX6_isBusy_8 : decode cX6_isBusy 8 = .ok (.getfield 17, 3) := by decide +kernel
theorem dX6_isBusy_11 : decode cX6_isBusy 11 = .ok (.iload_n 1, 1) := by decide +kernel
theorem dX6_isBusy_12 : decode cX6_isBusy 12 = .ok (.baload, 1) := by decide +kernel
theorem dX6_isBusy_13 : decode cX6_isBusy 13 = .ok (.ifCond .eq 7, 3) := by decide +kernel
theorem dX6_isBusy_16 : decode cX6_isBusy 16 = .ok (.iconst 1, 1) := by decide +kernel
theorem dX6_isBusy_17 : decode cX6_isBusy 17 = .ok (.goto 4, 3) := by decide +kernel
theorem dX6_isBusy_20 : decode cX6_isBusy 20 = .ok (.iconst 0, 1) := by decide +kernel
theorem dX6_isBusy_21 : decode cX6_isBusy 21 = .ok (.ireturn, 1) := by decide +kernel
set_option maxRecDepth 100000 in
theorem B_X6_isBusy_0 {d : Nat} {h : AbH} {K : Option AbV → AbH → Prop} {x0 : Nat} {x1 : Int} (hh : Vm d m_X9_isDate [vI x1] h (kI (fun n2 h1 => ((n2 = 0 → K (some (vI 0)) h1) ∧ (¬ (n2 = 0) → wpGR h1 (some x0) 5 1 (fun r3 => wpLZ h1 r3 x1 (fun n4 => ((n4 = 0 → K (some (vI 0)) h1) ∧ (¬ (n4 = 0) → K (some (vI 1)) h1))))))))) : Vx (d + 1) m_X6_isBusy 0 0 0 [some (vR (some x0)), some (vI x1)] [] h K := by
  refine rr_iload_n dX6_isBusy_0 rfl rfl ?_
  refine rr_callSN (bc' := 0) (bs' := 0) (av := [vI x1]) (st := []) mf_X9_isDate dX6_isBusy_1 rfl qn_12 q_483 rfl (by decide) (Nat.le_refl _) (Nat.le_refl _) hh (rr_kI fun n2 h1 hh => ?_)
  refine rr_if_eq (tgt := 20) dX6_isBusy_4 rfl (by decide) (fun hc4 => ?_) (fun hc4 => ?_)
  · have hh := hh.1 hc4
    refine rr_iconst dX6_isBusy_20 rfl ⟨by decide, by decide⟩ ?_
    exact rr_zret dX6_isBusy_21 rfl rfl hh
  · have hh := hh.2 hc4
    refine rr_aload_n dX6_isBusy_7 rfl rfl ?_
    refine rr_getR cf_X6 (j := 1) (by decide) dX6_isBusy_8 rfl q_146 hh (fun r3 hh => ?_)
    refine rr_iload_n dX6_isBusy_11 rfl rfl ?_
    refine rr_zald dX6_isBusy_12 rfl hh (fun n4 hh => ?_)
    refine rr_if_eq (tgt := 20) dX6_isBusy_13 rfl (by decide) (fun hc13 => ?_) (fun hc13 => ?_)
    · have hh := hh.1 hc13
      refine rr_iconst dX6_isBusy_20 rfl ⟨by decide, by decide⟩ ?_
      exact rr_zret dX6_isBusy_21 rfl rfl hh
    · have hh := hh.2 hc13
      refine rr_iconst dX6_isBusy_16 rfl ⟨by decide, by decide⟩ ?_
      refine rr_goto (pc' := 21) dX6_isBusy_17 (by decide) ?_
      exact rr_zret dX6_isBusy_21 rfl rfl hh
theorem dX6_changed_0 : decode cX6_changed 0 = .ok (.iload 4, 2) := by decide +kernel
theorem dX6_changed_2 : decode cX6_changed 2 = .ok (.invokestatic 63, 3) := by decide +kernel
theorem dX6_changed_5 : decode cX6_changed 5 = .ok (.ifCond .eq 10, 3) := by decide +kernel
theorem dX6_changed_8 : decode cX6_changed 8 = .ok (.iload_n 3, 1) := by decide +kernel
theorem dX6_changed_9 : decode cX6_changed 9 = .ok (.invokestatic 70, 3) := by decide +kernel
theorem dX6_changed_12 : decode cX6_changed 12 = .ok (.ifCond .ne 5, 3) := by decide +kernel
theorem dX6_changed_15 : decode cX6_changed 15 = .ok (.lload_n 1, 1) := by decide +kernel
theorem dX6_changed_16 : decode cX6_changed 16 = .ok (.lreturn, 1) := by decide +kernel
theorem dX6_changed_17 : decode cX6_changed 17 = .ok (.aload_n 0, 1) := by decide +kernel
theorem dX6_changed_18 : decode cX6_changed 18 = .ok (.getfield 11, 3) := by decide +kernel
theorem dX6_changed_21 : decode cX6_changed 21 = .ok (.iload 4, 2) := by decide +kernel
theorem dX6_changed_23 : decode cX6_changed 23 = .ok (.iconst 4, 1) := by decide +kernel
theorem dX6_changed_24 : decode cX6_changed 24 = .ok (.imul, 1) := by decide +kernel
theorem dX6_changed_25 : decode cX6_changed 25 = .ok (.iload_n 3, 1) := by decide +kernel
theorem dX6_changed_26 : decode cX6_changed 26 = .ok (.iadd, 1) := by decide +kernel
theorem dX6_changed_27 : decode cX6_changed 27 = .ok (.aaload, 1) := by decide +kernel
theorem dX6_changed_28 : decode cX6_changed 28 = .ok (.astore 5, 2) := by decide +kernel
theorem dX6_changed_30 : decode cX6_changed 30 = .ok (.aload 5, 2) := by decide +kernel
theorem dX6_changed_32 : decode cX6_changed 32 = .ok (.ifnonnull 7, 3) := by decide +kernel
theorem dX6_changed_35 : decode cX6_changed 35 = .ok (.lload_n 1, 1) := by decide +kernel
theorem dX6_changed_36 : decode cX6_changed 36 = .ok (.goto 9, 3) := by decide +kernel
theorem dX6_changed_39 : decode cX6_changed 39 = .ok (.aload 5, 2) := by decide +kernel
theorem dX6_changed_41 : decode cX6_changed 41 = .ok (.lload_n 1, 1) := by decide +kernel
theorem dX6_changed_42 : decode cX6_changed 42 = .ok (.invokevirtual 110, 3) := by decide +kernel
theorem dX6_changed_45 : decode cX6_changed 45 = .ok (.lreturn, 1) := by decide +kernel
set_option maxRecDepth 100000 in
theorem B_X6_changed_0 {d : Nat} {h : AbH} {K : Option AbV → AbH → Prop} {x0 : Nat} {x1 : Int} {x3 : Int} {x4 : Int} (hh : Vm d m_X9_isDate [vI x4] h (kI (fun n2 h1 => ((n2 = 0 → K (some (vL x1)) h1) ∧ (¬ (n2 = 0) → Vm d m_X9_isTongue [vI x3] h1 (kI (fun n4 h3 => ((n4 ≠ 0 → wpGR h3 (some x0) 5 0 (fun r5 => in32 (x4 * 4) ∧ in32 ((x4 * 4) + x3) ∧ wpLR h3 r5 ((x4 * 4) + x3) (fun r8 => ((r8 ≠ none → wpCV h3 r8 0 (fun b11 => Vm d m_X1_applied [vR (some b11), vL x1] h3 (kL (fun n10 h9 => K (some (vL n10)) h9)))) ∧ (¬ (r8 ≠ none) → K (some (vL x1)) h3))))) ∧ (¬ (n4 ≠ 0) → K (some (vL x1)) h3))))))))) : Vx (d + 1) m_X6_changed 0 0 0 [some (vR (some x0)), some (vL x1), none, some (vI x3), some (vI x4)] [] h K := by
  refine Vx.pad 1 [some (vR (some x0)), some (vL x1), none, some (vI x3), some (vI x4), none] rfl ?_
  refine rr_iload dX6_changed_0 rfl rfl ?_
  refine rr_callSN (bc' := 0) (bs' := 0) (av := [vI x4]) (st := []) mf_X9_isDate dX6_changed_2 rfl qn_12 q_483 rfl (by decide) (Nat.le_refl _) (Nat.le_refl _) hh (rr_kI fun n2 h1 hh => ?_)
  refine rr_if_eq (tgt := 15) dX6_changed_5 rfl (by decide) (fun hc5 => ?_) (fun hc5 => ?_)
  · have hh := hh.1 hc5
    refine rr_lload_n dX6_changed_15 rfl rfl ?_
    exact rr_lret dX6_changed_16 rfl hh
  · have hh := hh.2 hc5
    refine rr_iload_n dX6_changed_8 rfl rfl ?_
    refine rr_callSN (bc' := 0) (bs' := 0) (av := [vI x3]) (st := []) mf_X9_isTongue dX6_changed_9 rfl qn_13 q_384 rfl (by decide) (Nat.le_refl _) (Nat.le_refl _) hh (rr_kI fun n4 h3 hh => ?_)
    refine rr_if_ne (tgt := 17) dX6_changed_12 rfl (by decide) (fun hc12 => ?_) (fun hc12 => ?_)
    · have hh := hh.1 hc12
      refine rr_aload_n dX6_changed_17 rfl rfl ?_
      refine rr_getR cf_X6 (j := 0) (by decide) dX6_changed_18 rfl q_145 hh (fun r5 hh => ?_)
      refine rr_iload dX6_changed_21 rfl rfl ?_
      refine rr_iconst dX6_changed_23 rfl ⟨by decide, by decide⟩ ?_
      obtain ⟨hz6, hh⟩ := hh
      refine rr_imul dX6_changed_24 rfl hz6 ?_
      refine rr_iload_n dX6_changed_25 rfl rfl ?_
      obtain ⟨hz7, hh⟩ := hh
      refine rr_iadd dX6_changed_26 rfl hz7 ?_
      refine rr_aald dX6_changed_27 rfl hh (fun r8 hh => ?_)
      refine rr_astore (ls' := [some (vR (some x0)), some (vL x1), none, some (vI x3), some (vI x4), some (vR r8)]) dX6_changed_28 rfl (by decide) (fun _ z => by cases z) rfl ?_
      refine rr_aload dX6_changed_30 rfl rfl ?_
      refine rr_ifnonnull (tgt := 39) dX6_changed_32 rfl (by decide) (fun hc32 => ?_) (fun hc32 => ?_)
      · have hh := hh.1 hc32
        refine rr_aload dX6_changed_39 rfl rfl ?_
        refine rr_lload_n dX6_changed_41 rfl rfl ?_
        refine rr_callW (bc' := 0) (bs' := 0) (q := r8) (av := [vL x1]) (st := []) mf_X1_applied dX6_changed_42 rfl q_723 q_516 q_517 ⟨_, _, rfl⟩ rfl (by decide) (Nat.le_refl _) (Nat.le_refl _) hh (rr_kL fun n10 h9 hh => ?_)
        exact rr_lret dX6_changed_45 rfl hh
      · have hh := hh.2 hc32
        refine rr_lload_n dX6_changed_35 rfl rfl ?_
        refine rr_goto (pc' := 45) dX6_changed_36 (by decide) ?_
        exact rr_lret dX6_changed_45 rfl hh
    · have hh := hh.2 hc12
      refine rr_lload_n dX6_changed_15 rfl rfl ?_
      exact rr_lret dX6_changed_16 rfl hh
theorem dX5_init_0 : decode cX5_init 0 = .ok (.aload_n 0, 1) := by decide +kernel
theorem dX5_init_1 : decode cX5_init 1 = .ok (.invokespecial 3, 3) := by decide +kernel
theorem dX5_init_4 : decode cX5_init 4 = .ok (.aload_n 0, 1) := by decide +kernel
theorem dX5_init_5 : decode cX5_init 5 = .ok (.sipush 200, 3) := by decide +kernel
theorem dX5_init_8 : decode cX5_init 8 = .ok (.newarray .int, 2) := by decide +kernel
theorem dX5_init_10 : decode cX5_init 10 = .ok (.putfield 9, 3) := by decide +kernel
theorem dX5_init_13 : decode cX5_init 13 = .ok (.aload_n 0, 1) := by decide +kernel
theorem dX5_init_14 : decode cX5_init 14 = .ok (.iconst 0, 1) := by decide +kernel
theorem dX5_init_15 : decode cX5_init 15 = .ok (.putfield 15, 3) := by decide +kernel
theorem dX5_init_18 : decode cX5_init 18 = .ok (.aload_n 0, 1) := by decide +kernel
theorem dX5_init_19 : decode cX5_init 19 = .ok (.iconst 0, 1) := by decide +kernel
theorem dX5_init_20 : decode cX5_init 20 = .ok (.putfield 19, 3) := by decide +kernel
theorem dX5_init_23 : decode cX5_init 23 = .ok (.aload_n 0, 1) := by decide +kernel
theorem dX5_init_24 : decode cX5_init 24 = .ok (.iconst 0, 1) := by decide +kernel
theorem dX5_init_25 : decode cX5_init 25 = .ok (.putfield 22, 3) := by decide +kernel
theorem dX5_init_28 : decode cX5_init 28 = .ok (.aload_n 0, 1) := by decide +kernel
theorem dX5_init_29 : decode cX5_init 29 = .ok (.iconst 0, 1) := by decide +kernel
theorem dX5_init_30 : decode cX5_init 30 = .ok (.putfield 25, 3) := by decide +kernel
theorem dX5_init_33 : decode cX5_init 33 = .ok (.aload_n 0, 1) := by decide +kernel
theorem dX5_init_34 : decode cX5_init 34 = .ok (.iconst 0, 1) := by decide +kernel
theorem dX5_init_35 : decode cX5_init 35 = .ok (.putfield 28, 3) := by decide +kernel
theorem dX5_init_38 : decode cX5_init 38 = .ok (.return_, 1) := by decide +kernel
set_option maxRecDepth 100000 in
theorem B_X5_init_0 {d : Nat} {h : AbH} {K : Option AbV → AbH → Prop} {x0 : Nat} (hh : ∀ q1 : Nat, ab_new h q1 → ∀ h2 : AbH, h2 = hsI h q1 (200, fun _ => 0) → wpP h2 (some x0) 4 0 (vR (some q1)) (fun h5 => wpP h5 (some x0) 4 1 (vI 0) (fun h6 => wpP h6 (some x0) 4 2 (vI 0) (fun h7 => wpP h7 (some x0) 4 3 (vI 0) (fun h8 => wpP h8 (some x0) 4 4 (vI 0) (fun h9 => wpP h9 (some x0) 4 5 (vI 0) (fun h10 => K none h10))))))) : Vx (d + 1) m_X5_init 1 200 0 [some (vR (some x0))] [] h K := by
  refine rr_aload_n dX5_init_0 rfl rfl ?_
  refine rr_objInit dX5_init_1 rfl q_80 q_23 q_24 (by decide) ?_
  refine rr_aload_n dX5_init_4 rfl rfl ?_
  refine rr_sipush dX5_init_5 rfl ⟨by decide, by decide⟩ rfl ?_
  refine rr_newI (bc' := 0) (bs' := 0) (n := 200) dX5_init_8 rfl q_58 rfl (by decide) (by decide) (by decide) (fun q1 hz => ?_)
  have hh := hh q1 hz _ rfl
  generalize hsI h q1 (200, fun _ => 0) = h2 at hh ⊢
  refine rr_putF cf_X5 (j := 0) (by decide) dX5_init_10 rfl q_81 rfl rfl rfl (fty := .array (.int)) (by decide +kernel) (by first | rfl | exact rn_r _ _ (by first | exact Or.inl ⟨_, rfl⟩ | exact Or.inr ⟨_, rfl⟩)) (by first | rfl | exact rf_r _ _ (by first | exact Or.inl ⟨_, rfl⟩ | exact Or.inr ⟨_, rfl⟩)) hh (fun h5 hh => ?_)
  refine rr_aload_n dX5_init_13 rfl rfl ?_
  refine rr_iconst dX5_init_14 rfl ⟨by decide, by decide⟩ ?_
  refine rr_put cf_X5 (j := 1) (by decide) dX5_init_15 rfl q_82 rfl (fty := .int) (by decide +kernel) rfl rfl hh (fun h6 hh => ?_)
  refine rr_aload_n dX5_init_18 rfl rfl ?_
  refine rr_iconst dX5_init_19 rfl ⟨by decide, by decide⟩ ?_
  refine rr_put cf_X5 (j := 2) (by decide) dX5_init_20 rfl q_84 rfl (fty := .int) (by decide +kernel) rfl rfl hh (fun h7 hh => ?_)
  refine rr_aload_n dX5_init_23 rfl rfl ?_
  refine rr_iconst dX5_init_24 rfl ⟨by decide, by decide⟩ ?_
  refine rr_put cf_X5 (j := 3) (by decide) dX5_init_25 rfl q_86 rfl (fty := .int) (by decide +kernel) rfl rfl hh (fun h8 hh => ?_)
  refine rr_aload_n dX5_init_28 rfl rfl ?_
  refine rr_iconst dX5_init_29 rfl ⟨by decide, by decide⟩ ?_
  refine rr_put cf_X5 (j := 4) (by decide) dX5_init_30 rfl q_87 rfl (fty := .int) (by decide +kernel) rfl rfl hh (fun h9 hh => ?_)
  refine rr_aload_n dX5_init_33 rfl rfl ?_
  refine rr_iconst dX5_init_34 rfl ⟨by decide, by decide⟩ ?_
  refine rr_put cf_X5 (j := 5) (by decide) dX5_init_35 rfl q_88 rfl (fty := .int) (by decide +kernel) rfl rfl hh (fun h10 hh => ?_)
  exact rr_vret dX5_init_38 rfl hh
theorem dX5_append_0 : decode cX5_append 0 = .ok (.aload_n 0, 1) := by decide +kernel
theorem dX5_append_1 : decode cX5_append 1 = .ok (.getfield 15, 3) := by decide +kernel
theorem dX5_append_4 : decode cX5_append 4 = .ok (.iconst 0, 1) := by decide +kernel
theorem dX5_append_5 : decode cX5_append 5 = .ok (.aload_n 0, 1) := by decide +kernel
theorem dX5_append_6 : decode cX5_append 6 = .ok (.getfield 9, 3) := by decide +kernel
theorem dX5_append_9 : decode cX5_append 9 = .ok (.arraylength, 1) := by decide +kernel
theorem dX5_append_10 : decode cX5_append 10 = .ok (.iconst 1, 1) := by decide +kernel
theorem dX5_append_11 : decode cX5_append 11 = .ok (.isub, 1) := by decide +kernel
theorem dX5_append_12 : decode cX5_append 12 = .ok (.invokestatic 31, 3) := by decide +kernel
theorem dX5_append_15 : decode cX5_append 15 = .ok (.ifCond .ne 4, 3) := by decide +kernel
theorem dX5_append_18 : decode cX5_append 18 = .ok (.return_, 1) := by decide +kernel
theorem dX5_append_19 : decode cX5_append 19 = .ok (.aload_n 0, 1) := by decide +kernel
theorem dX5_append_20 : decode cX5_append 20 = .ok (.getfield 9, 3) := by decide +kernel
theorem dX5_append_23 : decode cX5_append 23 = .ok (.aload_n 0, 1) := by decide +kernel
theorem dX5_append_24 : decode cX5_append 24 = .ok (.getfield 15, 3) := by decide +kernel
theorem dX5_append_27 : decode cX5_append 27 = .ok (.iload_n 1, 1) := by decide +kernel
theorem dX5_append_28 : decode cX5_append 28 = .ok (.iastore, 1) := by decide +kernel
theorem dX5_append_29 : decode cX5_append 29 = .ok (.aload_n 0, 1) := by decide +kernel
theorem dX5_append_30 : decode cX5_append 30 = .ok (.dup, 1) := by decide +kernel
theorem dX5_append_31 : decode cX5_append 31 = .ok (.getfield 15, 3) := by decide +kernel
theorem dX5_append_34 : decode cX5_append 34 = .ok (.iconst 1, 1) := by decide +kernel
theorem dX5_append_35 : decode cX5_append 35 = .ok (.iadd, 1) := by decide +kernel
theorem dX5_append_36 : decode cX5_append 36 = .ok (.putfield 15, 3) := by decide +kernel
theorem dX5_append_39 : decode cX5_append 39 = .ok (.return_, 1) := by decide +kernel
set_option maxRecDepth 100000 in
theorem B_X5_append_0 {d : Nat} {h : AbH} {K : Option AbV → AbH → Prop} {x0 : Nat} {x1 : Int} (hh : wpGI h (some x0) 4 1 (fun n1 => wpGR h (some x0) 4 0 (fun r2 => wpNI h r2 (fun n3 => in32 (n3 - 1) ∧ Vm d m_X9_within [vI n1, vI 0, vI (n3 - 1)] h (kI (fun n6 h5 => ((n6 ≠ 0 → wpGR h5 (some x0) 4 0 (fun r7 => wpGI h5 (some x0) 4 1 (fun n8 => wpSI h5 r7 n8 x1 (fun h9 => wpGI h9 (some x0) 4 1 (fun n10 => in32 (n10 + 1) ∧ wpP h9 (some x0) 4 1 (vI (n10 + 1)) (fun h12 => K none h12)))))) ∧ (¬ (n6 ≠ 0) → K none h5)))))))) : Vx (d + 1) m_X5_append 0 0 0 [some (vR (some x0)), some (vI x1)] [] h K := by
  refine rr_aload_n dX5_append_0 rfl rfl ?_
  refine rr_getI cf_X5 (j := 1) (by decide) dX5_append_1 rfl q_82 hh (fun n1 hh => ?_)
  refine rr_iconst dX5_append_4 rfl ⟨by decide, by decide⟩ ?_
  refine rr_aload_n dX5_append_5 rfl rfl ?_
  refine rr_getR cf_X5 (j := 0) (by decide) dX5_append_6 rfl q_81 hh (fun r2 hh => ?_)
  refine rr_alenI dX5_append_9 rfl hh (fun n3 hh => ?_)
  refine rr_iconst dX5_append_10 rfl ⟨by decide, by decide⟩ ?_
  obtain ⟨hz4, hh⟩ := hh
  refine rr_isub dX5_append_11 rfl hz4 ?_
  refine rr_callSN (bc' := 0) (bs' := 0) (av := [vI n1, vI 0, vI (n3 - 1)]) (st := []) mf_X9_within dX5_append_12 rfl qn_5 q_197 rfl (by decide) (Nat.le_refl _) (Nat.le_refl _) hh (rr_kI fun n6 h5 hh => ?_)
  refine rr_if_ne (tgt := 19) dX5_append_15 rfl (by decide) (fun hc15 => ?_) (fun hc15 => ?_)
  · have hh := hh.1 hc15
    refine rr_aload_n dX5_append_19 rfl rfl ?_
    refine rr_getR cf_X5 (j := 0) (by decide) dX5_append_20 rfl q_81 hh (fun r7 hh => ?_)
    refine rr_aload_n dX5_append_23 rfl rfl ?_
    refine rr_getI cf_X5 (j := 1) (by decide) dX5_append_24 rfl q_82 hh (fun n8 hh => ?_)
    refine rr_iload_n dX5_append_27 rfl rfl ?_
    refine rr_iast dX5_append_28 rfl hh (fun h9 hh => ?_)
    refine rr_aload_n dX5_append_29 rfl rfl ?_
    refine rr_dup dX5_append_30 rfl rfl ?_
    refine rr_getI cf_X5 (j := 1) (by decide) dX5_append_31 rfl q_82 hh (fun n10 hh => ?_)
    refine rr_iconst dX5_append_34 rfl ⟨by decide, by decide⟩ ?_
    obtain ⟨hz11, hh⟩ := hh
    refine rr_iadd dX5_append_35 rfl hz11 ?_
    refine rr_put cf_X5 (j := 1) (by decide) dX5_append_36 rfl q_82 rfl (fty := .int) (by decide +kernel) rfl rfl hh (fun h12 hh => ?_)
    exact rr_vret dX5_append_39 rfl hh
  · have hh := hh.2 hc15
    exact rr_vret dX5_append_18 rfl hh
theorem dX5_clear_0 : decode cX5_clear 0 = .ok (.aload_n 0, 1) := by decide +kernel
theorem dX5_clear_1 : decode cX5_clear 1 = .ok (.iconst 0, 1) := by decide +kernel
theorem dX5_clear_2 : decode cX5_clear 2 = .ok (.putfield 15, 3) := by decide +kernel
theorem dX5_clear_5 : decode cX5_clear 5 = .ok (.return_, 1) := by decide +kernel
set_option maxRecDepth 100000 in
theorem B_X5_clear_0 {d : Nat} {h : AbH} {K : Option AbV → AbH → Prop} {x0 : Nat} (hh : wpP h (some x0) 4 1 (vI 0) (fun h1 => K none h1)) : Vx (d + 1) m_X5_clear 0 0 0 [some (vR (some x0))] [] h K := by
  refine rr_aload_n dX5_clear_0 rfl rfl ?_
  refine rr_iconst dX5_clear_1 rfl ⟨by decide, by decide⟩ ?_
  refine rr_put cf_X5 (j := 1) (by decide) dX5_clear_2 rfl q_82 rfl (fty := .int) (by decide +kernel) rfl rfl hh (fun h1 hh => ?_)
  exact rr_vret dX5_clear_5 rfl hh
theorem dX5_read_0 : decode cX5_read 0 = .ok (.aload_n 0, 1) := by decide +kernel
theorem dX5_read_1 : decode cX5_read 1 = .ok (.iconst 0, 1) := by decide +kernel
theorem dX5_read_2 : decode cX5_read 2 = .ok (.putfield 25, 3) := by decide +kernel
theorem dX5_read_5 : decode cX5_read 5 = .ok (.aload_n 0, 1) := by decide +kernel
theorem dX5_read_6 : decode cX5_read 6 = .ok (.invokevirtual 35, 3) := by decide +kernel
theorem dX5_read_9 : decode cX5_read 9 = .ok (.iconst 1, 1) := by decide +kernel
theorem dX5_read_10 : decode cX5_read 10 = .ok (.istore_n 2, 1) := by decide +kernel
theorem dX5_read_11 : decode cX5_read 11 = .ok (.iload_n 2, 1) := by decide +kernel
theorem dX5_read_12 : decode cX5_read 12 = .ok (.bipush 24, 2) := by decide +kernel
theorem dX5_read_14 : decode cX5_read 14 = .ok (.if_icmp .gt 64, 3) := by decide +kernel
theorem dX5_read_17 : decode cX5_read 17 = .ok (.aload_n 0, 1) := by decide +kernel
theorem dX5_read_18 : decode cX5_read 18 = .ok (.iload_n 2, 1) := by decide +kernel
theorem dX5_read_19 : decode cX5_read 19 = .ok (.putfield 19, 3) := by decide +kernel
theorem dX5_read_22 : decode cX5_read 22 = .ok (.aload_n 0, 1) := by decide +kernel
theorem dX5_read_23 : decode cX5_read 23 = .ok (.aload_n 1, 1) := by decide +kernel
theorem dX5_read_24 : decode cX5_read 24 = .ok (.invokevirtual 38, 3) := by decide +kernel
theorem dX5_read_27 : decode cX5_read 27 = .ok (.ifCond .ne 8, 3) := by decide +kernel
theorem dX5_read_30 : decode cX5_read 30 = .ok (.aload_n 0, 1) := by decide +kernel
theorem dX5_read_31 : decode cX5_read 31 = .ok (.getfield 22, 3) := by decide +kernel
theorem dX5_read_34 : decode cX5_read 34 = .ok (.ireturn, 1) := by decide +kernel
theorem dX5_read_35 : decode cX5_read 35 = .ok (.aload_n 0, 1) := by decide +kernel
theorem dX5_read_36 : decode cX5_read 36 = .ok (.getfield 22, 3) := by decide +kernel
theorem dX5_read_39 : decode cX5_read 39 = .ok (.aload_n 0, 1) := by decide +kernel
theorem dX5_read_40 : decode cX5_read 40 = .ok (.getfield 15, 3) := by decide +kernel
theorem dX5_read_43 : decode cX5_read 43 = .ok (.if_icmp .lt 5, 3) := by decide +kernel
theorem dX5_read_46 : decode cX5_read 46 = .ok (.iconst (-1), 1) := by decide +kernel
theorem dX5_read_47 : decode cX5_read 47 = .ok (.ireturn, 1) := by decide +kernel
theorem dX5_read_48 : decode cX5_read 48 = .ok (.iload_n 2, 1) := by decide +kernel
theorem dX5_read_49 : decode cX5_read 49 = .ok (.bipush 24, 2) := by decide +kernel
theorem dX5_read_51 : decode cX5_read 51 = .ok (.if_icmp .eq 12, 3) := by decide +kernel
theorem dX5_read_54 : decode cX5_read 54 = .ok (.aload_n 0, 1) := by decide +kernel
theorem dX5_read_55 : decode cX5_read 55 = .ok (.bipush 59, 2) := by decide +kernel
theorem dX5_read_57 : decode cX5_read 57 = .ok (.invokevirtual 42, 3) := by decide +kernel
theorem dX5_read_60 : decode cX5_read 60 = .ok (.ifCond .ne 8, 3) := by decide +kernel
theorem dX5_read_63 : decode cX5_read 63 = .ok (.aload_n 0, 1) := by decide +kernel
theorem dX5_read_64 : decode cX5_read 64 = .ok (.getfield 22, 3) := by decide +kernel
theorem dX5_read_67 : decode cX5_read 67 = .ok (.ireturn, 1) := by decide +kernel
theorem dX5_read_68 : decode cX5_read 68 = .ok (.aload_n 0, 1) := by decide +kernel
theorem dX5_read_69 : decode cX5_read 69 = .ok (.invokevirtual 35, 3) := by decide +kernel
theorem dX5_read_72 : decode cX5_read 72 = .ok (.iinc 2 1, 3) := by decide +kernel
theorem dX5_read_75 : decode cX5_read 75 = .ok (.goto (-64), 3) := by decide +kernel
theorem dX5_read_78 : decode cX5_read 78 = .ok (.aload_n 0, 1) := by decide +kernel
theorem dX5_read_79 : decode cX5_read 79 = .ok (.getfield 22, 3) := by decide +kernel
theorem dX5_read_82 : decode cX5_read 82 = .ok (.ireturn, 1) := by decide +kernel
set_option maxRecDepth 100000 in
theorem B_X5_read_0 {d : Nat} {h : AbH} {K : Option AbV → AbH → Prop} {x0 : Nat} {x1 : Option Nat} (hh : wpP h (some x0) 4 4 (vI 0) (fun h1 => wpCV h1 (some x0) 4 (fun b3 => Vm d m_X5_advance [vR (some b3)] h1 (kV (fun h2 => Vx (d + 1) m_X5_read 24 144 11 [some (vR (some x0)), some (vR x1), some (vI 1)] [] h2 K))))) : Vx (d + 1) m_X5_read 24 144 0 [some (vR (some x0)), some (vR x1)] [] h K := by
  refine Vx.pad 1 [some (vR (some x0)), some (vR x1), none] rfl ?_
  refine rr_aload_n dX5_read_0 rfl rfl ?_
  refine rr_iconst dX5_read_1 rfl ⟨by decide, by decide⟩ ?_
  refine rr_put cf_X5 (j := 4) (by decide) dX5_read_2 rfl q_87 rfl (fty := .int) (by decide +kernel) rfl rfl hh (fun h1 hh => ?_)
  refine rr_aload_n dX5_read_5 rfl rfl ?_
  refine rr_callW (bc' := 24) (bs' := 144) (q := (some x0)) (av := []) (st := []) mf_X5_advance dX5_read_6 rfl q_231 q_233 qs_0 ⟨_, _, rfl⟩ rfl (by decide) (Nat.le_refl _) (Nat.le_refl _) hh (rr_kV fun h2 hh => ?_)
  refine rr_iconst dX5_read_9 rfl ⟨by decide, by decide⟩ ?_
  refine rr_istore_n (ls' := [some (vR (some x0)), some (vR x1), some (vI 1)]) dX5_read_10 rfl (by decide) (fun _ z => by cases z) rfl ?_
  exact hh
set_option maxRecDepth 100000 in
theorem B_X5_read_11 {d : Nat} {h : AbH} {K : Option AbV → AbH → Prop} {x0 : Nat} {x1 : Option Nat} {x2 : Int} {bc bs : Nat} (hh : ((24 < x2 → wpGI h (some x0) 4 3 (fun n1 => K (some (vI n1)) h)) ∧ (¬ (24 < x2) → wpP h (some x0) 4 2 (vI x2) (fun h2 => 1 ≤ bc ∧ 6 ≤ bs ∧ wpCV h2 (some x0) 4 (fun b18 => Vm d m_X5_readClause [vR (some b18), vR x1] h2 (kI (fun n6 h5 => ((n6 ≠ 0 → wpGI h5 (some x0) 4 3 (fun n7 => wpGI h5 (some x0) 4 1 (fun n8 => ((n7 < n8 → ((x2 = 24 → wpGI h5 (some x0) 4 3 (fun n9 => K (some (vI n9)) h5)) ∧ (¬ (x2 = 24) → wpCV h5 (some x0) 4 (fun b16 => Vm d m_X5_isSign [vR (some b16), vI 59] h5 (kI (fun n11 h10 => ((n11 ≠ 0 → wpCV h10 (some x0) 4 (fun b14 => Vm d m_X5_advance [vR (some b14)] h10 (kV (fun h12 => in32 (x2 + 1) ∧ Vx (d + 1) m_X5_read (bc - 1) (bs - 6) 11 [some (vR (some x0)), some (vR x1), some (vI (x2 + 1))] [] h12 K)))) ∧ (¬ (n11 ≠ 0) → wpGI h10 (some x0) 4 3 (fun n15 => K (some (vI n15)) h10))))))))) ∧ (¬ (n7 < n8) → K (some (vI (-1))) h5))))) ∧ (¬ (n6 ≠ 0) → wpGI h5 (some x0) 4 3 (fun n17 => K (some (vI n17)) h5)))))))))) : Vx (d + 1) m_X5_read bc bs 11 [some (vR (some x0)), some (vR x1), some (vI x2)] [] h K := by
  refine rr_iload_n dX5_read_11 rfl rfl ?_
  refine rr_bipush dX5_read_12 rfl ⟨by decide, by decide⟩ rfl ?_
  refine rr_icmp_gt (tgt := 78) dX5_read_14 rfl (by decide) (fun hc14 => ?_) (fun hc14 => ?_)
  · have hh := hh.1 hc14
    refine rr_aload_n dX5_read_78 rfl rfl ?_
    refine rr_getI cf_X5 (j := 3) (by decide) dX5_read_79 rfl q_86 hh (fun n1 hh => ?_)
    exact rr_iret dX5_read_82 rfl hh
  · have hh := hh.2 hc14
    refine rr_aload_n dX5_read_17 rfl rfl ?_
    refine rr_iload_n dX5_read_18 rfl rfl ?_
    refine rr_put cf_X5 (j := 2) (by decide) dX5_read_19 rfl q_84 rfl (fty := .int) (by decide +kernel) rfl rfl hh (fun h2 hh => ?_)
    refine rr_aload_n dX5_read_22 rfl rfl ?_
    refine rr_aload_n dX5_read_23 rfl rfl ?_
    obtain ⟨hz3, hz4, hh⟩ := hh
    refine rr_callW (bc' := (bc - 1)) (bs' := (bs - 6)) (q := (some x0)) (av := [vR x1]) (st := []) mf_X5_readClause dX5_read_24 rfl q_245 q_247 qs_2 ⟨_, _, rfl⟩ rfl (by decide) (by show _ + 1 ≤ _; omega) (by show _ + 6 ≤ _; omega) hh (rr_kI fun n6 h5 hh => ?_)
    refine rr_if_ne (tgt := 35) dX5_read_27 rfl (by decide) (fun hc27 => ?_) (fun hc27 => ?_)
    · have hh := hh.1 hc27
      refine rr_aload_n dX5_read_35 rfl rfl ?_
      refine rr_getI cf_X5 (j := 3) (by decide) dX5_read_36 rfl q_86 hh (fun n7 hh => ?_)
      refine rr_aload_n dX5_read_39 rfl rfl ?_
      refine rr_getI cf_X5 (j := 1) (by decide) dX5_read_40 rfl q_82 hh (fun n8 hh => ?_)
      refine rr_icmp_lt (tgt := 48) dX5_read_43 rfl (by decide) (fun hc43 => ?_) (fun hc43 => ?_)
      · have hh := hh.1 hc43
        refine rr_iload_n dX5_read_48 rfl rfl ?_
        refine rr_bipush dX5_read_49 rfl ⟨by decide, by decide⟩ rfl ?_
        refine rr_icmp_eq (tgt := 63) dX5_read_51 rfl (by decide) (fun hc51 => ?_) (fun hc51 => ?_)
        · have hh := hh.1 hc51
          refine rr_aload_n dX5_read_63 rfl rfl ?_
          refine rr_getI cf_X5 (j := 3) (by decide) dX5_read_64 rfl q_86 hh (fun n9 hh => ?_)
          exact rr_iret dX5_read_67 rfl hh
        · have hh := hh.2 hc51
          refine rr_aload_n dX5_read_54 rfl rfl ?_
          refine rr_bipush dX5_read_55 rfl ⟨by decide, by decide⟩ rfl ?_
          refine rr_callW (bc' := (bc - 1)) (bs' := (bs - 6)) (q := (some x0)) (av := [vI 59]) (st := []) mf_X5_isSign dX5_read_57 rfl q_318 q_320 qs_7 ⟨_, _, rfl⟩ rfl (by decide) (Nat.le_refl _) (Nat.le_refl _) hh (rr_kI fun n11 h10 hh => ?_)
          refine rr_if_ne (tgt := 68) dX5_read_60 rfl (by decide) (fun hc60 => ?_) (fun hc60 => ?_)
          · have hh := hh.1 hc60
            refine rr_aload_n dX5_read_68 rfl rfl ?_
            refine rr_callW (bc' := (bc - 1)) (bs' := (bs - 6)) (q := (some x0)) (av := []) (st := []) mf_X5_advance dX5_read_69 rfl q_231 q_233 qs_0 ⟨_, _, rfl⟩ rfl (by decide) (Nat.le_refl _) (Nat.le_refl _) hh (rr_kV fun h12 hh => ?_)
            obtain ⟨hz13, hh⟩ := hh
            refine rr_iinc (ls' := [some (vR (some x0)), some (vR x1), some (vI (x2 + 1))]) dX5_read_72 rfl rfl (by decide) (fun _ z => by cases z) hz13 rfl ?_
            refine rr_goto (pc' := 11) dX5_read_75 (by decide) ?_
            exact hh
          · have hh := hh.2 hc60
            refine rr_aload_n dX5_read_63 rfl rfl ?_
            refine rr_getI cf_X5 (j := 3) (by decide) dX5_read_64 rfl q_86 hh (fun n15 hh => ?_)
            exact rr_iret dX5_read_67 rfl hh
      · have hh := hh.2 hc43
        refine rr_iconst dX5_read_46 rfl ⟨by decide, by decide⟩ ?_
        exact rr_iret dX5_read_47 rfl hh
    · have hh := hh.2 hc27
      refine rr_aload_n dX5_read_30 rfl rfl ?_
      refine rr_getI cf_X5 (j := 3) (by decide) dX5_read_31 rfl q_86 hh (fun n17 hh => ?_)
      exact rr_iret dX5_read_34 rfl hh
theorem dX5_readClause_0 : decode cX5_readClause 0 = .ok (.aload_n 0, 1) := by decide +kernel
theorem dX5_readClause_1 : decode cX5_readClause 1 = .ok (.ldc 46, 2) := by decide +kernel
theorem dX5_readClause_3 : decode cX5_readClause 3 = .ok (.invokevirtual 48, 3) := by decide +kernel
theorem dX5_readClause_6 : decode cX5_readClause 6 = .ok (.ifCond .eq 9, 3) := by decide +kernel
theorem dX5_readClause_9 : decode cX5_readClause 9 = .ok (.aload_n 0, 1) := by decide +kernel
theorem dX5_readClause_10 : decode cX5_readClause 10 = .ok (.aload_n 1, 1) := by decide +kernel
theorem dX5_readClause_11 : decode cX5_readClause 11 = .ok (.invokevirtual 52, 3) := by decide +kernel
theorem dX5_readClause_14 : decode cX5_readClause 14 = .ok (.ireturn, 1) := by decide +kernel
theorem dX5_readClause_15 : decode cX5_readClause 15 = .ok (.aload_n 0, 1) := by decide +kernel
theorem dX5_readClause_16 : decode cX5_readClause 16 = .ok (.ldc 55, 2) := by decide +kernel
theorem dX5_readClause_18 : decode cX5_readClause 18 = .ok (.invokevirtual 48, 3) := by decide +kernel
theorem dX5_readClause_21 : decode cX5_readClause 21 = .ok (.ifCond .eq 9, 3) := by decide +kernel
theorem dX5_readClause_24 : decode cX5_readClause 24 = .ok (.aload_n 0, 1) := by decide +kernel
theorem dX5_readClause_25 : decode cX5_readClause 25 = .ok (.aload_n 1, 1) := by decide +kernel
theorem dX5_readClause_26 : decode cX5_readClause 26 = .ok (.invokevirtual 57, 3) := by decide +kernel
theorem dX5_readClause_29 : decode cX5_readClause 29 = .ok (.ireturn, 1) := by decide +kernel
theorem dX5_readClause_30 : decode cX5_readClause 30 = .ok (.aload_n 0, 1) := by decide +kernel
theorem dX5_readClause_31 : decode cX5_readClause 31 = .ok (.ldc 60, 2) := by decide +kernel
theorem dX5_readClause_33 : decode cX5_readClause 33 = .ok (.invokevirtual 48, 3) := by decide +kernel
theorem dX5_readClause_36 : decode cX5_readClause 36 = .ok (.ifCond .eq 9, 3) := by decide +kernel
theorem dX5_readClause_39 : decode cX5_readClause 39 = .ok (.aload_n 0, 1) := by decide +kernel
theorem dX5_readClause_40 : decode cX5_readClause 40 = .ok (.aload_n 1, 1) := by decide +kernel
theorem dX5_readClause_41 : decode cX5_readClause 41 = .ok (.invokevirtual 62, 3) := by decide +kernel
theorem dX5_readClause_44 : decode cX5_readClause 44 = .ok (.ireturn, 1) := by decide +kernel
theorem dX5_readClause_45 : decode cX5_readClause 45 = .ok (.aload_n 0, 1) := by decide +kernel
theorem dX5_readClause_46 : decode cX5_readClause 46 = .ok (.ldc 65, 2) := by decide +kernel
theorem dX5_readClause_48 : decode cX5_readClause 48 = .ok (.invokevirtual 48, 3) := by decide +kernel
theorem dX5_readClause_51 : decode cX5_readClause 51 = .ok (.ifCond .ne 5, 3) := by decide +kernel
theorem dX5_readClause_54 : decode cX5_readClause 54 = .ok (.iconst 0, 1) := by decide +kernel
theorem dX5_readClause_55 : decode cX5_readClause 55 = .ok (.ireturn, 1) := by decide +kernel
theorem dX5_readClause_56 : decode cX5_readClause 56 = .ok (.aload_n 1, 1) := by decide +kernel
theorem dX5_readClause_57 : decode cX5_readClause 57 = .ok (.invokevirtual 67, 3) := by decide +kernel
theorem dX5_readClause_60 : decode cX5_readClause 60 = .ok (.aload_n 0, 1) := by decide +kernel
theorem dX5_readClause_61 : decode cX5_readClause 61 = .ok (.invokevirtual 35, 3) := by decide +kernel
theorem dX5_readClause_64 : decode cX5_readClause 64 = .ok (.iconst 1, 1) := by decide +kernel
theorem dX5_readClause_65 : decode cX5_readClause 65 = .ok (.ireturn, 1) := by decide +kernel
set_option maxRecDepth 100000 in
theorem B_X5_readClause_0 {d : Nat} {h : AbH} {K : Option AbV → AbH → Prop} {x0 : Nat} {x1 : Option Nat} (hh : ∀ a1 : Nat, hpS h a1 0 → wpCV h (some x0) 4 (fun b36 => Vm d m_X5_isWord [vR (some b36), vR (some a1)] h (kI (fun n3 h2 => ((n3 = 0 → ∀ a4 : Nat, hpS h2 a4 1 → wpCV h2 (some x0) 4 (fun b29 => Vm d m_X5_isWord [vR (some b29), vR (some a4)] h2 (kI (fun n6 h5 => ((n6 = 0 → ∀ a7 : Nat, hpS h5 a7 2 → wpCV h5 (some x0) 4 (fun b24 => Vm d m_X5_isWord [vR (some b24), vR (some a7)] h5 (kI (fun n9 h8 => ((n9 = 0 → ∀ a10 : Nat, hpS h8 a10 3 → wpCV h8 (some x0) 4 (fun b17 => Vm d m_X5_isWord [vR (some b17), vR (some a10)] h8 (kI (fun n12 h11 => ((n12 ≠ 0 → wpCV h11 x1 7 (fun b16 => Vm d m_X8_clear [vR (some b16)] h11 (kV (fun h13 => wpCV h13 (some x0) 4 (fun b15 => Vm d m_X5_advance [vR (some b15)] h13 (kV (fun h14 => K (some (vI 1)) h14))))))) ∧ (¬ (n12 ≠ 0) → K (some (vI 0)) h11)))))) ∧ (¬ (n9 = 0) → wpCV h8 (some x0) 4 (fun b23 => Vm d m_X5_readLoan [vR (some b23), vR x1] h8 (kI (fun n21 h20 => ab_z01 n21 ∧ K (some (vI n21)) h20))))))))) ∧ (¬ (n6 = 0) → wpCV h5 (some x0) 4 (fun b28 => Vm d m_X5_readMeeting [vR (some b28), vR x1] h5 (kI (fun n26 h25 => ab_z01 n26 ∧ K (some (vI n26)) h25))))))))) ∧ (¬ (n3 = 0) → wpCV h2 (some x0) 4 (fun b35 => Vm d m_X5_readLaw [vR (some b35), vR x1] h2 (kI (fun n33 h32 => ab_z01 n33 ∧ K (some (vI n33)) h32))))))))) : Vx (d + 1) m_X5_readClause 1 6 0 [some (vR (some x0)), some (vR x1)] [] h K := by
  refine rr_aload_n dX5_readClause_0 rfl rfl ?_
  refine rr_ldcS 0 (by decide) rfl dX5_readClause_1 rfl rfl (fun a1 hz => ?_)
  have hh := hh a1 hz
  refine rr_callW (bc' := 1) (bs' := 6) (q := (some x0)) (av := [vR (some a1)]) (st := []) mf_X5_isWord dX5_readClause_3 rfl q_250 q_252 qs_3 ⟨_, _, rfl⟩ rfl (by decide) (Nat.le_refl _) (Nat.le_refl _) hh (rr_kI fun n3 h2 hh => ?_)
  refine rr_if_eq (tgt := 15) dX5_readClause_6 rfl (by decide) (fun hc6 => ?_) (fun hc6 => ?_)
  · have hh := hh.1 hc6
    refine rr_aload_n dX5_readClause_15 rfl rfl ?_
    refine rr_ldcS 1 (by decide) rfl dX5_readClause_16 rfl rfl (fun a4 hz => ?_)
    have hh := hh a4 hz
    refine rr_callW (bc' := 1) (bs' := 6) (q := (some x0)) (av := [vR (some a4)]) (st := []) mf_X5_isWord dX5_readClause_18 rfl q_250 q_252 qs_3 ⟨_, _, rfl⟩ rfl (by decide) (Nat.le_refl _) (Nat.le_refl _) hh (rr_kI fun n6 h5 hh => ?_)
    refine rr_if_eq (tgt := 30) dX5_readClause_21 rfl (by decide) (fun hc21 => ?_) (fun hc21 => ?_)
    · have hh := hh.1 hc21
      refine rr_aload_n dX5_readClause_30 rfl rfl ?_
      refine rr_ldcS 2 (by decide) rfl dX5_readClause_31 rfl rfl (fun a7 hz => ?_)
      have hh := hh a7 hz
      refine rr_callW (bc' := 1) (bs' := 6) (q := (some x0)) (av := [vR (some a7)]) (st := []) mf_X5_isWord dX5_readClause_33 rfl q_250 q_252 qs_3 ⟨_, _, rfl⟩ rfl (by decide) (Nat.le_refl _) (Nat.le_refl _) hh (rr_kI fun n9 h8 hh => ?_)
      refine rr_if_eq (tgt := 45) dX5_readClause_36 rfl (by decide) (fun hc36 => ?_) (fun hc36 => ?_)
      · have hh := hh.1 hc36
        refine rr_aload_n dX5_readClause_45 rfl rfl ?_
        refine rr_ldcS 3 (by decide) rfl dX5_readClause_46 rfl rfl (fun a10 hz => ?_)
        have hh := hh a10 hz
        refine rr_callW (bc' := 1) (bs' := 6) (q := (some x0)) (av := [vR (some a10)]) (st := []) mf_X5_isWord dX5_readClause_48 rfl q_250 q_252 qs_3 ⟨_, _, rfl⟩ rfl (by decide) (Nat.le_refl _) (Nat.le_refl _) hh (rr_kI fun n12 h11 hh => ?_)
        refine rr_if_ne (tgt := 56) dX5_readClause_51 rfl (by decide) (fun hc51 => ?_) (fun hc51 => ?_)
        · have hh := hh.1 hc51
          refine rr_aload_n dX5_readClause_56 rfl rfl ?_
          refine rr_callW (bc' := 1) (bs' := 6) (q := x1) (av := []) (st := []) mf_X8_clear dX5_readClause_57 rfl q_433 q_434 q_435 ⟨_, _, rfl⟩ rfl (by decide) (Nat.le_refl _) (Nat.le_refl _) hh (rr_kV fun h13 hh => ?_)
          refine rr_aload_n dX5_readClause_60 rfl rfl ?_
          refine rr_callW (bc' := 1) (bs' := 6) (q := (some x0)) (av := []) (st := []) mf_X5_advance dX5_readClause_61 rfl q_231 q_233 qs_0 ⟨_, _, rfl⟩ rfl (by decide) (Nat.le_refl _) (Nat.le_refl _) hh (rr_kV fun h14 hh => ?_)
          refine rr_iconst dX5_readClause_64 rfl ⟨by decide, by decide⟩ ?_
          exact rr_zret dX5_readClause_65 rfl rfl hh
        · have hh := hh.2 hc51
          refine rr_iconst dX5_readClause_54 rfl ⟨by decide, by decide⟩ ?_
          exact rr_zret dX5_readClause_55 rfl rfl hh
      · have hh := hh.2 hc36
        refine rr_aload_n dX5_readClause_39 rfl rfl ?_
        refine rr_aload_n dX5_readClause_40 rfl rfl ?_
        refine rr_callW (bc' := 0) (bs' := 2) (q := (some x0)) (av := [vR x1]) (st := []) mf_X5_readLoan dX5_readClause_41 rfl q_388 q_390 qs_11 ⟨_, _, rfl⟩ rfl (by decide) (by decide) (by decide) hh (rr_kI fun n21 h20 hh => ?_)
        obtain ⟨hz22, hh⟩ := hh
        exact rr_zret dX5_readClause_44 rfl (zn_b hz22) hh
    · have hh := hh.2 hc21
      refine rr_aload_n dX5_readClause_24 rfl rfl ?_
      refine rr_aload_n dX5_readClause_25 rfl rfl ?_
      refine rr_callW (bc' := 1) (bs' := 6) (q := (some x0)) (av := [vR x1]) (st := []) mf_X5_readMeeting dX5_readClause_26 rfl q_372 q_374 qs_9 ⟨_, _, rfl⟩ rfl (by decide) (Nat.le_refl _) (Nat.le_refl _) hh (rr_kI fun n26 h25 hh => ?_)
      obtain ⟨hz27, hh⟩ := hh
      exact rr_zret dX5_readClause_29 rfl (zn_b hz27) hh
  · have hh := hh.2 hc6
    refine rr_aload_n dX5_readClause_9 rfl rfl ?_
    refine rr_aload_n dX5_readClause_10 rfl rfl ?_
    refine rr_callW (bc' := 0) (bs' := 0) (q := (some x0)) (av := [vR x1]) (st := []) mf_X5_readLaw dX5_readClause_11 rfl q_302 q_304 qs_4 ⟨_, _, rfl⟩ rfl (by decide) (by decide) (by decide) hh (rr_kI fun n33 h32 hh => ?_)
    obtain ⟨hz34, hh⟩ := hh
    exact rr_zret dX5_readClause_14 rfl (zn_b hz34) hh
theorem dX5_readLaw_0 : decode cX5_readLaw 0 = .ok (.aload_n 1, 1) := by decide +kernel
theorem dX5_readLaw_1 : decode cX5_readLaw 1 = .ok (.getfield 72, 3) := by decide +kernel
theorem dX5_readLaw_4 : decode cX5_readLaw 4 = .ok (.bipush 16, 2) := by decide +kernel
theorem dX5_readLaw_6 : decode cX5_readLaw 6 = .ok (.if_icmp .lt 5, 3) := by decide +kernel
theorem dX5_readLaw_9 : decode cX5_readLaw 9 = .ok (.iconst 0, 1) := by decide +kernel
theorem dX5_readLaw_10 : decode cX5_readLaw 10 = .ok (.ireturn, 1) := by decide +kernel
theorem dX5_readLaw_11 : decode cX5_readLaw 11 = .ok (.aload_n 0, 1) := by decide +kernel
theorem dX5_readLaw_12 : decode cX5_readLaw 12 = .ok (.invokevirtual 35, 3) := by decide +kernel
theorem dX5_readLaw_15 : decode cX5_readLaw 15 = .ok (.aload_n 0, 1) := by decide +kernel
theorem dX5_readLaw_16 : decode cX5_readLaw 16 = .ok (.iconst 0, 1) := by decide +kernel
theorem dX5_readLaw_17 : decode cX5_readLaw 17 = .ok (.iconst 3, 1) := by decide +kernel
theorem dX5_readLaw_18 : decode cX5_readLaw 18 = .ok (.invokevirtual 75, 3) := by decide +kernel
theorem dX5_readLaw_21 : decode cX5_readLaw 21 = .ok (.istore_n 2, 1) := by decide +kernel
theorem dX5_readLaw_22 : decode cX5_readLaw 22 = .ok (.iload_n 2, 1) := by decide +kernel
theorem dX5_readLaw_23 : decode cX5_readLaw 23 = .ok (.iconst (-1), 1) := by decide +kernel
theorem dX5_readLaw_24 : decode cX5_readLaw 24 = .ok (.if_icmp .ne 5, 3) := by decide +kernel
theorem dX5_readLaw_27 : decode cX5_readLaw 27 = .ok (.iconst 0, 1) := by decide +kernel
theorem dX5_readLaw_28 : decode cX5_readLaw 28 = .ok (.ireturn, 1) := by decide +kernel
theorem dX5_readLaw_29 : decode cX5_readLaw 29 = .ok (.aload_n 0, 1) := by decide +kernel
theorem dX5_readLaw_30 : decode cX5_readLaw 30 = .ok (.invokevirtual 35, 3) := by decide +kernel
theorem dX5_readLaw_33 : decode cX5_readLaw 33 = .ok (.aload_n 0, 1) := by decide +kernel
theorem dX5_readLaw_34 : decode cX5_readLaw 34 = .ok (.iconst 1, 1) := by decide +kernel
theorem dX5_readLaw_35 : decode cX5_readLaw 35 = .ok (.bipush 99, 2) := by decide +kernel
theorem dX5_readLaw_37 : decode cX5_readLaw 37 = .ok (.invokevirtual 75, 3) := by decide +kernel
theorem dX5_readLaw_40 : decode cX5_readLaw 40 = .ok (.istore_n 3, 1) := by decide +kernel
theorem dX5_readLaw_41 : decode cX5_readLaw 41 = .ok (.iload_n 3, 1) := by decide +kernel
theorem dX5_readLaw_42 : decode cX5_readLaw 42 = .ok (.iconst (-1), 1) := by decide +kernel
theorem dX5_readLaw_43 : decode cX5_readLaw 43 = .ok (.if_icmp .eq 12, 3) := by decide +kernel
theorem dX5_readLaw_46 : decode cX5_readLaw 46 = .ok (.aload_n 1, 1) := by decide +kernel
theorem dX5_readLaw_47 : decode cX5_readLaw 47 = .ok (.iload_n 2, 1) := by decide +kernel
theorem dX5_readLaw_48 : decode cX5_readLaw 48 = .ok (.iload_n 3, 1) := by decide +kernel
theorem dX5_readLaw_49 : decode cX5_readLaw 49 = .ok (.invokevirtual 79, 3) := by decide +kernel
theorem dX5_readLaw_52 : decode cX5_readLaw 52 = .ok (.ifCond .eq 5, 3) := by decide +kernel
theorem dX5_readLaw_55 : decode cX5_readLaw 55 = .ok (.iconst 0, 1) := by decide +kernel
theorem dX5_readLaw_56 : decode cX5_readLaw 56 = .ok (.ireturn, 1) := by decide +kernel
theorem dX5_readLaw_57 : decode cX5_readLaw 57 = .ok (.aload_n 0, 1) := by decide +kernel
theorem dX5_readLaw_58 : decode cX5_readLaw 58 = .ok (.invokevirtual 35, 3) := by decide +kernel
theorem dX5_readLaw_61 : decode cX5_readLaw 61 = .ok (.aload_n 0, 1) := by decide +kernel
theorem dX5_readLaw_62 : decode cX5_readLaw 62 = .ok (.invokevirtual 83, 3) := by decide +kernel
theorem dX5_readLaw_65 : decode cX5_readLaw 65 = .ok (.istore 4, 2) := by decide +kernel
theorem dX5_readLaw_67 : decode cX5_readLaw 67 = .ok (.iload 4, 2) := by decide +kernel
theorem dX5_readLaw_69 : decode cX5_readLaw 69 = .ok (.iconst (-1), 1) := by decide +kernel
theorem dX5_readLaw_70 : decode cX5_readLaw 70 = .ok (.if_icmp .ne 5, 3) := by decide +kernel
theorem dX5_readLaw_73 : decode cX5_readLaw 73 = .ok (.iconst 0, 1) := by decide +kernel
theorem dX5_readLaw_74 : decode cX5_readLaw 74 = .ok (.ireturn, 1) := by decide +kernel
theorem dX5_readLaw_75 : decode cX5_readLaw 75 = .ok (.aload_n 0, 1) := by decide +kernel
theorem dX5_readLaw_76 : decode cX5_readLaw 76 = .ok (.invokevirtual 35, 3) := by decide +kernel
theorem dX5_readLaw_79 : decode cX5_readLaw 79 = .ok (.aload_n 0, 1) := by decide +kernel
theorem dX5_readLaw_80 : decode cX5_readLaw 80 = .ok (.invokevirtual 83, 3) := by decide +kernel
theorem dX5_readLaw_83 : decode cX5_readLaw 83 = .ok (.istore 5, 2) := by decide +kernel
theorem dX5_readLaw_85 : decode cX5_readLaw 85 = .ok (.iload 5, 2) := by decide +kernel
theorem dX5_readLaw_87 : decode cX5_readLaw 87 = .ok (.iload 4, 2) := by decide +kernel
theorem dX5_readLaw_89 : decode cX5_readLaw 89 = .ok (.if_icmp .eq 18, 3) := by decide +kernel
theorem dX5_readLaw_92 : decode cX5_readLaw 92 = .ok (.iload 5, 2) := by decide +kernel
theorem dX5_readLaw_94 : decode cX5_readLaw 94 = .ok (.iconst (-1), 1) := by decide +kernel
theorem dX5_readLaw_95 : decode cX5_readLaw 95 = .ok (.if_icmp .ne 14, 3) := by decide +kernel
theorem dX5_readLaw_98 : decode cX5_readLaw 98 = .ok (.aload_n 0, 1) := by decide +kernel
theorem dX5_readLaw_99 : decode cX5_readLaw 99 = .ok (.bipush 45, 2) := by decide +kernel
theorem dX5_readLaw_101 : decode cX5_readLaw 101 = .ok (.invokevirtual 42, 3) := by decide +kernel
theorem dX5_readLaw_104 : decode cX5_readLaw 104 = .ok (.ifCond .ne 5, 3) := by decide +kernel
theorem dX5_readLaw_107 : decode cX5_readLaw 107 = .ok (.iconst 0, 1) := by decide +kernel
theorem dX5_readLaw_108 : decode cX5_readLaw 108 = .ok (.ireturn, 1) := by decide +kernel
theorem dX5_readLaw_109 : decode cX5_readLaw 109 = .ok (.aload_n 0, 1) := by decide +kernel
theorem dX5_readLaw_110 : decode cX5_readLaw 110 = .ok (.invokevirtual 35, 3) := by decide +kernel
theorem dX5_readLaw_113 : decode cX5_readLaw 113 = .ok (.aload_n 0, 1) := by decide +kernel
theorem dX5_readLaw_114 : decode cX5_readLaw 114 = .ok (.invokevirtual 87, 3) := by decide +kernel
theorem dX5_readLaw_117 : decode cX5_readLaw 117 = .ok (.istore 6, 2) := by decide +kernel
theorem dX5_readLaw_119 : decode cX5_readLaw 119 = .ok (.iload 6, 2) := by decide +kernel
theorem dX5_readLaw_121 : decode cX5_readLaw 121 = .ok (.iconst (-1), 1) := by decide +kernel
theorem dX5_readLaw_122 : decode cX5_readLaw 122 = .ok (.if_icmp .ne 5, 3) := by decide +kernel
theorem dX5_readLaw_125 : decode cX5_readLaw 125 = .ok (.iconst 0, 1) := by decide +kernel
theorem dX5_readLaw_126 : decode cX5_readLaw 126 = .ok (.ireturn, 1) := by decide +kernel
theorem dX5_readLaw_127 : decode cX5_readLaw 127 = .ok (.aload_n 0, 1) := by decide +kernel
theorem dX5_readLaw_128 : decode cX5_readLaw 128 = .ok (.invokevirtual 35, 3) := by decide +kernel
theorem dX5_readLaw_131 : decode cX5_readLaw 131 = .ok (.iconst (-1), 1) := by decide +kernel
theorem dX5_readLaw_132 : decode cX5_readLaw 132 = .ok (.istore 7, 2) := by decide +kernel
theorem dX5_readLaw_134 : decode cX5_readLaw 134 = .ok (.iload 6, 2) := by decide +kernel
theorem dX5_readLaw_136 : decode cX5_readLaw 136 = .ok (.ifCond .eq 21, 3) := by decide +kernel
theorem dX5_readLaw_139 : decode cX5_readLaw 139 = .ok (.aload_n 0, 1) := by decide +kernel
theorem dX5_readLaw_140 : decode cX5_readLaw 140 = .ok (.invokevirtual 83, 3) := by decide +kernel
theorem dX5_readLaw_143 : decode cX5_readLaw 143 = .ok (.istore 7, 2) := by decide +kernel
theorem dX5_readLaw_145 : decode cX5_readLaw 145 = .ok (.iload 7, 2) := by decide +kernel
theorem dX5_readLaw_147 : decode cX5_readLaw 147 = .ok (.iconst (-1), 1) := by decide +kernel
theorem dX5_readLaw_148 : decode cX5_readLaw 148 = .ok (.if_icmp .ne 5, 3) := by decide +kernel
theorem dX5_readLaw_151 : decode cX5_readLaw 151 = .ok (.iconst 0, 1) := by decide +kernel
theorem dX5_readLaw_152 : decode cX5_readLaw 152 = .ok (.ireturn, 1) := by decide +kernel
theorem dX5_readLaw_153 : decode cX5_readLaw 153 = .ok (.aload_n 0, 1) := by decide +kernel
theorem dX5_readLaw_154 : decode cX5_readLaw 154 = .ok (.invokevirtual 35, 3) := by decide +kernel
theorem dX5_readLaw_157 : decode cX5_readLaw 157 = .ok (.aload_n 1, 1) := by decide +kernel
theorem dX5_readLaw_158 : decode cX5_readLaw 158 = .ok (.new 90, 3) := by decide +kernel
theorem dX5_readLaw_161 : decode cX5_readLaw 161 = .ok (.dup, 1) := by decide +kernel
theorem dX5_readLaw_162 : decode cX5_readLaw 162 = .ok (.iload_n 2, 1) := by decide +kernel
theorem dX5_readLaw_163 : decode cX5_readLaw 163 = .ok (.iload_n 3, 1) := by decide +kernel
theorem dX5_readLaw_164 : decode cX5_readLaw 164 = .ok (.iload 4, 2) := by decide +kernel
theorem dX5_readLaw_166 : decode cX5_readLaw 166 = .ok (.iload 5, 2) := by decide +kernel
theorem dX5_readLaw_168 : decode cX5_readLaw 168 = .ok (.iload 6, 2) := by decide +kernel
theorem dX5_readLaw_170 : decode cX5_readLaw 170 = .ok (.iload 7, 2) := by decide +kernel
theorem dX5_readLaw_172 : decode cX5_readLaw 172 = .ok (.invokespecial 92, 3) := by decide +kernel
theorem dX5_readLaw_175 : decode cX5_readLaw 175 = .ok (.invokevirtual 95, 3) := by decide +kernel
theorem dX5_readLaw_178 : decode cX5_readLaw 178 = .ok (.pop, 1) := by decide +kernel
theorem dX5_readLaw_179 : decode cX5_readLaw 179 = .ok (.iconst 1, 1) := by decide +kernel
theorem dX5_readLaw_180 : decode cX5_readLaw 180 = .ok (.ireturn, 1) := by decide +kernel
set_option maxRecDepth 100000 in
theorem B_X5_readLaw_0 {d : Nat} {h : AbH} {K : Option AbV → AbH → Prop} {x0 : Nat} {x1 : Option Nat} (hh : wpGI h x1 7 4 (fun n1 => ((n1 < 16 → wpCV h (some x0) 4 (fun b51 => Vm d m_X5_advance [vR (some b51)] h (kV (fun h2 => wpCV h2 (some x0) 4 (fun b50 => Vm d m_X5_number [vR (some b50), vI 0, vI 3] h2 (kI (fun n4 h3 => ((n4 ≠ (-1) → wpCV h3 (some x0) 4 (fun b49 => Vm d m_X5_advance [vR (some b49)] h3 (kV (fun h5 => wpCV h5 (some x0) 4 (fun b48 => Vm d m_X5_number [vR (some b48), vI 1, vI 99] h5 (kI (fun n7 h6 => ((n7 = (-1) → K (some (vI 0)) h6) ∧ (¬ (n7 = (-1)) → wpCV h6 x1 7 (fun b47 => Vm d m_X8_hasLaw [vR (some b47), vI n4, vI n7] h6 (kI (fun n9 h8 => ((n9 = 0 → wpCV h8 (some x0) 4 (fun b46 => Vm d m_X5_advance [vR (some b46)] h8 (kV (fun h10 => wpCV h10 (some x0) 4 (fun b45 => Vm d m_X5_letter [vR (some b45)] h10 (kI (fun n12 h11 => ((n12 ≠ (-1) → wpCV h11 (some x0) 4 (fun b44 => Vm d m_X5_advance [vR (some b44)] h11 (kV (fun h13 => wpCV h13 (some x0) 4 (fun b43 => Vm d m_X5_letter [vR (some b43)] h13 (kI (fun n15 h14 => ((n15 = n12 → K (some (vI 0)) h14) ∧ (¬ (n15 = n12) → ((n15 ≠ (-1) → wpCV h14 (some x0) 4 (fun b27 => Vm d m_X5_advance [vR (some b27)] h14 (kV (fun h16 => wpCV h16 (some x0) 4 (fun b26 => Vm d m_X5_environment [vR (some b26)] h16 (kI (fun n18 h17 => ((n18 ≠ (-1) → wpCV h17 (some x0) 4 (fun b25 => Vm d m_X5_advance [vR (some b25)] h17 (kV (fun h19 => ((n18 = 0 → Vx (d + 1) m_X5_readLaw 1 6 157 [some (vR (some x0)), some (vR x1), some (vI n4), some (vI n7), some (vI n12), some (vI n15), some (vI n18), some (vI (-1))] [] h19 K) ∧ (¬ (n18 = 0) → wpCV h19 (some x0) 4 (fun b24 => Vm d m_X5_letter [vR (some b24)] h19 (kI (fun n21 h20 => ((n21 ≠ (-1) → wpCV h20 (some x0) 4 (fun b23 => Vm d m_X5_advance [vR (some b23)] h20 (kV (fun h22 => Vx (d + 1) m_X5_readLaw 1 6 157 [some (vR (some x0)), some (vR x1), some (vI n4), some (vI n7), some (vI n12), some (vI n15), some (vI n18), some (vI n21)] [] h22 K)))) ∧ (¬ (n21 ≠ (-1)) → K (some (vI 0)) h20))))))))))) ∧ (¬ (n18 ≠ (-1)) → K (some (vI 0)) h17))))))))) ∧ (¬ (n15 ≠ (-1)) → wpCV h14 (some x0) 4 (fun b42 => Vm d m_X5_isSign [vR (some b42), vI 45] h14 (kI (fun n29 h28 => ((n29 ≠ 0 → wpCV h28 (some x0) 4 (fun b41 => Vm d m_X5_advance [vR (some b41)] h28 (kV (fun h30 => wpCV h30 (some x0) 4 (fun b40 => Vm d m_X5_environment [vR (some b40)] h30 (kI (fun n32 h31 => ((n32 ≠ (-1) → wpCV h31 (some x0) 4 (fun b39 => Vm d m_X5_advance [vR (some b39)] h31 (kV (fun h33 => ((n32 = 0 → Vx (d + 1) m_X5_readLaw 1 6 157 [some (vR (some x0)), some (vR x1), some (vI n4), some (vI n7), some (vI n12), some (vI n15), some (vI n32), some (vI (-1))] [] h33 K) ∧ (¬ (n32 = 0) → wpCV h33 (some x0) 4 (fun b38 => Vm d m_X5_letter [vR (some b38)] h33 (kI (fun n35 h34 => ((n35 ≠ (-1) → wpCV h34 (some x0) 4 (fun b37 => Vm d m_X5_advance [vR (some b37)] h34 (kV (fun h36 => Vx (d + 1) m_X5_readLaw 1 6 157 [some (vR (some x0)), some (vR x1), some (vI n4), some (vI n7), some (vI n12), some (vI n15), some (vI n32), some (vI n35)] [] h36 K)))) ∧ (¬ (n35 ≠ (-1)) → K (some (vI 0)) h34))))))))))) ∧ (¬ (n32 ≠ (-1)) → K (some (vI 0)) h31))))))))) ∧ (¬ (n29 ≠ 0) → K (some (vI 0)) h28)))))))))))))))) ∧ (¬ (n12 ≠ (-1)) → K (some (vI 0)) h11))))))))) ∧ (¬ (n9 = 0) → K (some (vI 0)) h8)))))))))))))) ∧ (¬ (n4 ≠ (-1)) → K (some (vI 0)) h3))))))))) ∧ (¬ (n1 < 16) → K (some (vI 0)) h)))) : Vx (d + 1) m_X5_readLaw 1 6 0 [some (vR (some x0)), some (vR x1)] [] h K := by
  refine Vx.pad 6 [some (vR (some x0)), some (vR x1), none, none, none, none, none, none] rfl ?_
  refine rr_aload_n dX5_readLaw_0 rfl rfl ?_
  refine rr_getI cf_X8 (j := 4) (by decide) dX5_readLaw_1 rfl q_40 hh (fun n1 hh => ?_)
  refine rr_bipush dX5_readLaw_4 rfl ⟨by decide, by decide⟩ rfl ?_
  refine rr_icmp_lt (tgt := 11) dX5_readLaw_6 rfl (by decide) (fun hc6 => ?_) (fun hc6 => ?_)
  · have hh := hh.1 hc6
    refine rr_aload_n dX5_readLaw_11 rfl rfl ?_
    refine rr_callW (bc' := 1) (bs' := 6) (q := (some x0)) (av := []) (st := []) mf_X5_advance dX5_readLaw_12 rfl q_231 q_233 qs_0 ⟨_, _, rfl⟩ rfl (by decide) (Nat.le_refl _) (Nat.le_refl _) hh (rr_kV fun h2 hh => ?_)
    refine rr_aload_n dX5_readLaw_15 rfl rfl ?_
    refine rr_iconst dX5_readLaw_16 rfl ⟨by decide, by decide⟩ ?_
    refine rr_iconst dX5_readLaw_17 rfl ⟨by decide, by decide⟩ ?_
    refine rr_callW (bc' := 1) (bs' := 6) (q := (some x0)) (av := [vI 0, vI 3]) (st := []) mf_X5_number dX5_readLaw_18 rfl q_306 q_308 qs_5 ⟨_, _, rfl⟩ rfl (by decide) (Nat.le_refl _) (Nat.le_refl _) hh (rr_kI fun n4 h3 hh => ?_)
    refine rr_istore_n (ls' := [some (vR (some x0)), some (vR x1), some (vI n4), none, none, none, none, none]) dX5_readLaw_21 rfl (by decide) (fun _ z => by cases z) rfl ?_
    refine rr_iload_n dX5_readLaw_22 rfl rfl ?_
    refine rr_iconst dX5_readLaw_23 rfl ⟨by decide, by decide⟩ ?_
    refine rr_icmp_ne (tgt := 29) dX5_readLaw_24 rfl (by decide) (fun hc24 => ?_) (fun hc24 => ?_)
    · have hh := hh.1 hc24
      refine rr_aload_n dX5_readLaw_29 rfl rfl ?_
      refine rr_callW (bc' := 1) (bs' := 6) (q := (some x0)) (av := []) (st := []) mf_X5_advance dX5_readLaw_30 rfl q_231 q_233 qs_0 ⟨_, _, rfl⟩ rfl (by decide) (Nat.le_refl _) (Nat.le_refl _) hh (rr_kV fun h5 hh => ?_)
      refine rr_aload_n dX5_readLaw_33 rfl rfl ?_
      refine rr_iconst dX5_readLaw_34 rfl ⟨by decide, by decide⟩ ?_
      refine rr_bipush dX5_readLaw_35 rfl ⟨by decide, by decide⟩ rfl ?_
      refine rr_callW (bc' := 1) (bs' := 6) (q := (some x0)) (av := [vI 1, vI 99]) (st := []) mf_X5_number dX5_readLaw_37 rfl q_306 q_308 qs_5 ⟨_, _, rfl⟩ rfl (by decide) (Nat.le_refl _) (Nat.le_refl _) hh (rr_kI fun n7 h6 hh => ?_)
      refine rr_istore_n (ls' := [some (vR (some x0)), some (vR x1), some (vI n4), some (vI n7), none, none, none, none]) dX5_readLaw_40 rfl (by decide) (fun _ z => by cases z) rfl ?_
      refine rr_iload_n dX5_readLaw_41 rfl rfl ?_
      refine rr_iconst dX5_readLaw_42 rfl ⟨by decide, by decide⟩ ?_
      refine rr_icmp_eq (tgt := 55) dX5_readLaw_43 rfl (by decide) (fun hc43 => ?_) (fun hc43 => ?_)
      · have hh := hh.1 hc43
        refine rr_iconst dX5_readLaw_55 rfl ⟨by decide, by decide⟩ ?_
        exact rr_zret dX5_readLaw_56 rfl rfl hh
      · have hh := hh.2 hc43
        refine rr_aload_n dX5_readLaw_46 rfl rfl ?_
        refine rr_iload_n dX5_readLaw_47 rfl rfl ?_
        refine rr_iload_n dX5_readLaw_48 rfl rfl ?_
        refine rr_callW (bc' := 1) (bs' := 6) (q := x1) (av := [vI n4, vI n7]) (st := []) mf_X8_hasLaw dX5_readLaw_49 rfl q_310 q_311 q_312 ⟨_, _, rfl⟩ rfl (by decide) (Nat.le_refl _) (Nat.le_refl _) hh (rr_kI fun n9 h8 hh => ?_)
        refine rr_if_eq (tgt := 57) dX5_readLaw_52 rfl (by decide) (fun hc52 => ?_) (fun hc52 => ?_)
        · have hh := hh.1 hc52
          refine rr_aload_n dX5_readLaw_57 rfl rfl ?_
          refine rr_callW (bc' := 1) (bs' := 6) (q := (some x0)) (av := []) (st := []) mf_X5_advance dX5_readLaw_58 rfl q_231 q_233 qs_0 ⟨_, _, rfl⟩ rfl (by decide) (Nat.le_refl _) (Nat.le_refl _) hh (rr_kV fun h10 hh => ?_)
          refine rr_aload_n dX5_readLaw_61 rfl rfl ?_
          refine rr_callW (bc' := 1) (bs' := 6) (q := (some x0)) (av := []) (st := []) mf_X5_letter dX5_readLaw_62 rfl q_314 q_316 qs_6 ⟨_, _, rfl⟩ rfl (by decide) (Nat.le_refl _) (Nat.le_refl _) hh (rr_kI fun n12 h11 hh => ?_)
          refine rr_istore (ls' := [some (vR (some x0)), some (vR x1), some (vI n4), some (vI n7), some (vI n12), none, none, none]) dX5_readLaw_65 rfl (by decide) (fun _ z => by cases z) rfl ?_
          refine rr_iload dX5_readLaw_67 rfl rfl ?_
          refine rr_iconst dX5_readLaw_69 rfl ⟨by decide, by decide⟩ ?_
          refine rr_icmp_ne (tgt := 75) dX5_readLaw_70 rfl (by decide) (fun hc70 => ?_) (fun hc70 => ?_)
          · have hh := hh.1 hc70
            refine rr_aload_n dX5_readLaw_75 rfl rfl ?_
            refine rr_callW (bc' := 1) (bs' := 6) (q := (some x0)) (av := []) (st := []) mf_X5_advance dX5_readLaw_76 rfl q_231 q_233 qs_0 ⟨_, _, rfl⟩ rfl (by decide) (Nat.le_refl _) (Nat.le_refl _) hh (rr_kV fun h13 hh => ?_)
            refine rr_aload_n dX5_readLaw_79 rfl rfl ?_
            refine rr_callW (bc' := 1) (bs' := 6) (q := (some x0)) (av := []) (st := []) mf_X5_letter dX5_readLaw_80 rfl q_314 q_316 qs_6 ⟨_, _, rfl⟩ rfl (by decide) (Nat.le_refl _) (Nat.le_refl _) hh (rr_kI fun n15 h14 hh => ?_)
            refine rr_istore (ls' := [some (vR (some x0)), some (vR x1), some (vI n4), some (vI n7), some (vI n12), some (vI n15), none, none]) dX5_readLaw_83 rfl (by decide) (fun _ z => by cases z) rfl ?_
            refine rr_iload dX5_readLaw_85 rfl rfl ?_
            refine rr_iload dX5_readLaw_87 rfl rfl ?_
            refine rr_icmp_eq (tgt := 107) dX5_readLaw_89 rfl (by decide) (fun hc89 => ?_) (fun hc89 => ?_)
            · have hh := hh.1 hc89
              refine rr_iconst dX5_readLaw_107 rfl ⟨by decide, by decide⟩ ?_
              exact rr_zret dX5_readLaw_108 rfl rfl hh
            · have hh := hh.2 hc89
              refine rr_iload dX5_readLaw_92 rfl rfl ?_
              refine rr_iconst dX5_readLaw_94 rfl ⟨by decide, by decide⟩ ?_
              refine rr_icmp_ne (tgt := 109) dX5_readLaw_95 rfl (by decide) (fun hc95 => ?_) (fun hc95 => ?_)
              · have hh := hh.1 hc95
                refine rr_aload_n dX5_readLaw_109 rfl rfl ?_
                refine rr_callW (bc' := 1) (bs' := 6) (q := (some x0)) (av := []) (st := []) mf_X5_advance dX5_readLaw_110 rfl q_231 q_233 qs_0 ⟨_, _, rfl⟩ rfl (by decide) (Nat.le_refl _) (Nat.le_refl _) hh (rr_kV fun h16 hh => ?_)
                refine rr_aload_n dX5_readLaw_113 rfl rfl ?_
                refine rr_callW (bc' := 1) (bs' := 6) (q := (some x0)) (av := []) (st := []) mf_X5_environment dX5_readLaw_114 rfl q_322 q_324 qs_8 ⟨_, _, rfl⟩ rfl (by decide) (Nat.le_refl _) (Nat.le_refl _) hh (rr_kI fun n18 h17 hh => ?_)
                refine rr_istore (ls' := [some (vR (some x0)), some (vR x1), some (vI n4), some (vI n7), some (vI n12), some (vI n15), some (vI n18), none]) dX5_readLaw_117 rfl (by decide) (fun _ z => by cases z) rfl ?_
                refine rr_iload dX5_readLaw_119 rfl rfl ?_
                refine rr_iconst dX5_readLaw_121 rfl ⟨by decide, by decide⟩ ?_
                refine rr_icmp_ne (tgt := 127) dX5_readLaw_122 rfl (by decide) (fun hc122 => ?_) (fun hc122 => ?_)
                · have hh := hh.1 hc122
                  refine rr_aload_n dX5_readLaw_127 rfl rfl ?_
                  refine rr_callW (bc' := 1) (bs' := 6) (q := (some x0)) (av := []) (st := []) mf_X5_advance dX5_readLaw_128 rfl q_231 q_233 qs_0 ⟨_, _, rfl⟩ rfl (by decide) (Nat.le_refl _) (Nat.le_refl _) hh (rr_kV fun h19 hh => ?_)
                  refine rr_iconst dX5_readLaw_131 rfl ⟨by decide, by decide⟩ ?_
                  refine rr_istore (ls' := [some (vR (some x0)), some (vR x1), some (vI n4), some (vI n7), some (vI n12), some (vI n15), some (vI n18), some (vI (-1))]) dX5_readLaw_132 rfl (by decide) (fun _ z => by cases z) rfl ?_
                  refine rr_iload dX5_readLaw_134 rfl rfl ?_
                  refine rr_if_eq (tgt := 157) dX5_readLaw_136 rfl (by decide) (fun hc136 => ?_) (fun hc136 => ?_)
                  · have hh := hh.1 hc136
                    exact hh
                  · have hh := hh.2 hc136
                    refine rr_aload_n dX5_readLaw_139 rfl rfl ?_
                    refine rr_callW (bc' := 1) (bs' := 6) (q := (some x0)) (av := []) (st := []) mf_X5_letter dX5_readLaw_140 rfl q_314 q_316 qs_6 ⟨_, _, rfl⟩ rfl (by decide) (Nat.le_refl _) (Nat.le_refl _) hh (rr_kI fun n21 h20 hh => ?_)
                    refine rr_istore (ls' := [some (vR (some x0)), some (vR x1), some (vI n4), some (vI n7), some (vI n12), some (vI n15), some (vI n18), some (vI n21)]) dX5_readLaw_143 rfl (by decide) (fun _ z => by cases z) rfl ?_
                    refine rr_iload dX5_readLaw_145 rfl rfl ?_
                    refine rr_iconst dX5_readLaw_147 rfl ⟨by decide, by decide⟩ ?_
                    refine rr_icmp_ne (tgt := 153) dX5_readLaw_148 rfl (by decide) (fun hc148 => ?_) (fun hc148 => ?_)
                    · have hh := hh.1 hc148
                      refine rr_aload_n dX5_readLaw_153 rfl rfl ?_
                      refine rr_callW (bc' := 1) (bs' := 6) (q := (some x0)) (av := []) (st := []) mf_X5_advance dX5_readLaw_154 rfl q_231 q_233 qs_0 ⟨_, _, rfl⟩ rfl (by decide) (Nat.le_refl _) (Nat.le_refl _) hh (rr_kV fun h22 hh => ?_)
                      exact hh
                    · have hh := hh.2 hc148
                      refine rr_iconst dX5_readLaw_151 rfl ⟨by decide, by decide⟩ ?_
                      exact rr_zret dX5_readLaw_152 rfl rfl hh
                · have hh := hh.2 hc122
                  refine rr_iconst dX5_readLaw_125 rfl ⟨by decide, by decide⟩ ?_
                  exact rr_zret dX5_readLaw_126 rfl rfl hh
              · have hh := hh.2 hc95
                refine rr_aload_n dX5_readLaw_98 rfl rfl ?_
                refine rr_bipush dX5_readLaw_99 rfl ⟨by decide, by decide⟩ rfl ?_
                refine rr_callW (bc' := 1) (bs' := 6) (q := (some x0)) (av := [vI 45]) (st := []) mf_X5_isSign dX5_readLaw_101 rfl q_318 q_320 qs_7 ⟨_, _, rfl⟩ rfl (by decide) (Nat.le_refl _) (Nat.le_refl _) hh (rr_kI fun n29 h28 hh => ?_)
                refine rr_if_ne (tgt := 109) dX5_readLaw_104 rfl (by decide) (fun hc104 => ?_) (fun hc104 => ?_)
                · have hh := hh.1 hc104
                  refine rr_aload_n dX5_readLaw_109 rfl rfl ?_
                  refine rr_callW (bc' := 1) (bs' := 6) (q := (some x0)) (av := []) (st := []) mf_X5_advance dX5_readLaw_110 rfl q_231 q_233 qs_0 ⟨_, _, rfl⟩ rfl (by decide) (Nat.le_refl _) (Nat.le_refl _) hh (rr_kV fun h30 hh => ?_)
                  refine rr_aload_n dX5_readLaw_113 rfl rfl ?_
                  refine rr_callW (bc' := 1) (bs' := 6) (q := (some x0)) (av := []) (st := []) mf_X5_environment dX5_readLaw_114 rfl q_322 q_324 qs_8 ⟨_, _, rfl⟩ rfl (by decide) (Nat.le_refl _) (Nat.le_refl _) hh (rr_kI fun n32 h31 hh => ?_)
                  refine rr_istore (ls' := [some (vR (some x0)), some (vR x1), some (vI n4), some (vI n7), some (vI n12), some (vI n15), some (vI n32), none]) dX5_readLaw_117 rfl (by decide) (fun _ z => by cases z) rfl ?_
                  refine rr_iload dX5_readLaw_119 rfl rfl ?_
                  refine rr_iconst dX5_readLaw_121 rfl ⟨by decide, by decide⟩ ?_
                  refine rr_icmp_ne (tgt := 127) dX5_readLaw_122 rfl (by decide) (fun hc122 => ?_) (fun hc122 => ?_)
                  · have hh := hh.1 hc122
                    refine rr_aload_n dX5_readLaw_127 rfl rfl ?_
                    refine rr_callW (bc' := 1) (bs' := 6) (q := (some x0)) (av := []) (st := []) mf_X5_advance dX5_readLaw_128 rfl q_231 q_233 qs_0 ⟨_, _, rfl⟩ rfl (by decide) (Nat.le_refl _) (Nat.le_refl _) hh (rr_kV fun h33 hh => ?_)
                    refine rr_iconst dX5_readLaw_131 rfl ⟨by decide, by decide⟩ ?_
                    refine rr_istore (ls' := [some (vR (some x0)), some (vR x1), some (vI n4), some (vI n7), some (vI n12), some (vI n15), some (vI n32), some (vI (-1))]) dX5_readLaw_132 rfl (by decide) (fun _ z => by cases z) rfl ?_
                    refine rr_iload dX5_readLaw_134 rfl rfl ?_
                    refine rr_if_eq (tgt := 157) dX5_readLaw_136 rfl (by decide) (fun hc136 => ?_) (fun hc136 => ?_)
                    · have hh := hh.1 hc136
                      exact hh
                    · have hh := hh.2 hc136
                      refine rr_aload_n dX5_readLaw_139 rfl rfl ?_
                      refine rr_callW (bc' := 1) (bs' := 6) (q := (some x0)) (av := []) (st := []) mf_X5_letter dX5_readLaw_140 rfl q_314 q_316 qs_6 ⟨_, _, rfl⟩ rfl (by decide) (Nat.le_refl _) (Nat.le_refl _) hh (rr_kI fun n35 h34 hh => ?_)
                      refine rr_istore (ls' := [some (vR (some x0)), some (vR x1), some (vI n4), some (vI n7), some (vI n12), some (vI n15), some (vI n32), some (vI n35)]) dX5_readLaw_143 rfl (by decide) (fun _ z => by cases z) rfl ?_
                      refine rr_iload dX5_readLaw_145 rfl rfl ?_
                      refine rr_iconst dX5_readLaw_147 rfl ⟨by decide, by decide⟩ ?_
                      refine rr_icmp_ne (tgt := 153) dX5_readLaw_148 rfl (by decide) (fun hc148 => ?_) (fun hc148 => ?_)
                      · have hh := hh.1 hc148
                        refine rr_aload_n dX5_readLaw_153 rfl rfl ?_
                        refine rr_callW (bc' := 1) (bs' := 6) (q := (some x0)) (av := []) (st := []) mf_X5_advance dX5_readLaw_154 rfl q_231 q_233 qs_0 ⟨_, _, rfl⟩ rfl (by decide) (Nat.le_refl _) (Nat.le_refl _) hh (rr_kV fun h36 hh => ?_)
                        exact hh
                      · have hh := hh.2 hc148
                        refine rr_iconst dX5_readLaw_151 rfl ⟨by decide, by decide⟩ ?_
                        exact rr_zret dX5_readLaw_152 rfl rfl hh
                  · have hh := hh.2 hc122
                    refine rr_iconst dX5_readLaw_125 rfl ⟨by decide, by decide⟩ ?_
                    exact rr_zret dX5_readLaw_126 rfl rfl hh
                · have hh := hh.2 hc104
                  refine rr_iconst dX5_readLaw_107 rfl ⟨by decide, by decide⟩ ?_
                  exact rr_zret dX5_readLaw_108 rfl rfl hh
          · have hh := hh.2 hc70
            refine rr_iconst dX5_readLaw_73 rfl ⟨by decide, by decide⟩ ?_
            exact rr_zret dX5_readLaw_74 rfl rfl hh
        · have hh := hh.2 hc52
          refine rr_iconst dX5_readLaw_55 rfl ⟨by decide, by decide⟩ ?_
          exact rr_zret dX5_readLaw_56 rfl rfl hh
    · have hh := hh.2 hc24
      refine rr_iconst dX5_readLaw_27 rfl ⟨by decide, by decide⟩ ?_
      exact rr_zret dX5_readLaw_28 rfl rfl hh
  · have hh := hh.2 hc6
    refine rr_iconst dX5_readLaw_9 rfl ⟨by decide, by decide⟩ ?_
    exact rr_zret dX5_readLaw_10 rfl rfl hh
set_option maxRecDepth 100000 in
theorem B_X5_readLaw_157 {d : Nat} {h : AbH} {K : Option AbV → AbH → Prop} {x0 : Nat} {x1 : Option Nat} {x2 : Int} {x3 : Int} {x4 : Int} {x5 : Int} {x6 : Int} {x7 : Int} {bc bs : Nat} (hh : 1 ≤ bc ∧ 6 ≤ bs ∧ ∀ q1 : Nat, ab_new h q1 → ∀ h2 : AbH, h2 = hsO h q1 (0, [vI 0, vI 0, vI 0, vI 0, vI 0, vI 0]) → Vm d m_X1_init [vR (some q1), vI x2, vI x3, vI x4, vI x5, vI x6, vI x7] h2 (kV (fun h3 => wpCV h3 x1 7 (fun b6 => Vm d m_X8_addLaw [vR (some b6), vR (some q1)] h3 (kI (fun n5 h4 => K (some (vI 1)) h4)))))) : Vx (d + 1) m_X5_readLaw bc bs 157 [some (vR (some x0)), some (vR x1), some (vI x2), some (vI x3), some (vI x4), some (vI x5), some (vI x6), some (vI x7)] [] h K := by
  refine rr_aload_n dX5_readLaw_157 rfl rfl ?_
  obtain ⟨hz7, hz8, hh⟩ := hh
  refine rr_new (bc' := (bc - 1)) (bs' := (bs - 6)) cf_X1 (fs := [vI 0, vI 0, vI 0, vI 0, vI 0, vI 0]) dX5_readLaw_158 rfl q_326 q_327 q_14 (fun j hj => by rcases (show j = 0 ∨ j = 1 ∨ j = 2 ∨ j = 3 ∨ j = 4 ∨ j = 5 by omega) with rfl | rfl | rfl | rfl | rfl | rfl <;> rfl) (by intro v hv; simp only [List.mem_cons, List.not_mem_nil, or_false] at hv; rcases hv with rfl | rfl | rfl | rfl | rfl | rfl <;> first | trivial | exact ⟨by decide, by decide⟩) (by omega) (by omega) (fun q1 hz => ?_)
  have hh := hh q1 hz _ rfl
  generalize hsO h q1 (0, [vI 0, vI 0, vI 0, vI 0, vI 0, vI 0]) = h2 at hh ⊢
  refine rr_dup dX5_readLaw_161 rfl rfl ?_
  refine rr_iload_n dX5_readLaw_162 rfl rfl ?_
  refine rr_iload_n dX5_readLaw_163 rfl rfl ?_
  refine rr_iload dX5_readLaw_164 rfl rfl ?_
  refine rr_iload dX5_readLaw_166 rfl rfl ?_
  refine rr_iload dX5_readLaw_168 rfl rfl ?_
  refine rr_iload dX5_readLaw_170 rfl rfl ?_
  refine rr_callI (bc' := (bc - 1)) (bs' := (bs - 6)) (b := q1) (av := [vI x2, vI x3, vI x4, vI x5, vI x6, vI x7]) (st := [vR (some q1), vR x1]) mf_X1_init rfl rfl dX5_readLaw_172 rfl q_328 q_329 rfl (cs_le _ (Nat.le_of_ble_eq_true rfl)) (Nat.le_refl _) (Nat.le_refl _) hh (rr_kV fun h3 hh => ?_)
  refine rr_callW (bc' := (bc - 1)) (bs' := (bs - 6)) (q := x1) (av := [vR (some q1)]) (st := []) mf_X8_addLaw dX5_readLaw_175 rfl q_363 q_364 q_365 ⟨_, _, rfl⟩ rfl (by decide) (Nat.le_refl _) (Nat.le_refl _) hh (rr_kI fun n5 h4 hh => ?_)
  refine rr_pop dX5_readLaw_178 rfl rfl ?_
  refine rr_iconst dX5_readLaw_179 rfl ⟨by decide, by decide⟩ ?_
  exact rr_zret dX5_readLaw_180 rfl rfl hh
theorem dX5_readMeeting_0 : decode cX5_readMeeting 0 = .ok (.aload_n 0, 1) := by decide +kernel
theorem dX5_readMeeting_1 : decode cX5_readMeeting 1 = .ok (.invokevirtual 35, 3) := by decide +kernel
theorem dX5_readMeeting_4 : decode cX5_readMeeting 4 = .ok (.aload_n 0, 1) := by decide +kernel
theorem dX5_readMeeting_5 : decode cX5_readMeeting 5 = .ok (.invokevirtual 99, 3) := by decide +kernel
theorem dX5_readMeeting_8 : decode cX5_readMeeting 8 = .ok (.istore_n 2, 1) := by decide +kernel
theorem dX5_readMeeting_9 : decode cX5_readMeeting 9 = .ok (.iload_n 2, 1) := by decide +kernel
theorem dX5_readMeeting_10 : decode cX5_readMeeting 10 = .ok (.iconst (-1), 1) := by decide +kernel
theorem dX5_readMeeting_11 : decode cX5_readMeeting 11 = .ok (.if_icmp .ne 5, 3) := by decide +kernel
theorem dX5_readMeeting_14 : decode cX5_readMeeting 14 = .ok (.iconst 0, 1) := by decide +kernel
theorem dX5_readMeeting_15 : decode cX5_readMeeting 15 = .ok (.ireturn, 1) := by decide +kernel
theorem dX5_readMeeting_16 : decode cX5_readMeeting 16 = .ok (.aload_n 0, 1) := by decide +kernel
theorem dX5_readMeeting_17 : decode cX5_readMeeting 17 = .ok (.iconst 0, 1) := by decide +kernel
theorem dX5_readMeeting_18 : decode cX5_readMeeting 18 = .ok (.bipush 99, 2) := by decide +kernel
theorem dX5_readMeeting_20 : decode cX5_readMeeting 20 = .ok (.invokevirtual 75, 3) := by decide +kernel
theorem dX5_readMeeting_23 : decode cX5_readMeeting 23 = .ok (.istore_n 3, 1) := by decide +kernel
theorem dX5_readMeeting_24 : decode cX5_readMeeting 24 = .ok (.iload_n 3, 1) := by decide +kernel
theorem dX5_readMeeting_25 : decode cX5_readMeeting 25 = .ok (.iconst (-1), 1) := by decide +kernel
theorem dX5_readMeeting_26 : decode cX5_readMeeting 26 = .ok (.if_icmp .ne 5, 3) := by decide +kernel
theorem dX5_readMeeting_29 : decode cX5_readMeeting 29 = .ok (.iconst 0, 1) := by decide +kernel
theorem dX5_readMeeting_30 : decode cX5_readMeeting 30 = .ok (.ireturn, 1) := by decide +kernel
theorem dX5_readMeeting_31 : decode cX5_readMeeting 31 = .ok (.aload_n 0, 1) := by decide +kernel
theorem dX5_readMeeting_32 : decode cX5_readMeeting 32 = .ok (.invokevirtual 35, 3) := by decide +kernel
theorem dX5_readMeeting_35 : decode cX5_readMeeting 35 = .ok (.aload_n 0, 1) := by decide +kernel
theorem dX5_readMeeting_36 : decode cX5_readMeeting 36 = .ok (.iload_n 3, 1) := by decide +kernel
theorem dX5_readMeeting_37 : decode cX5_readMeeting 37 = .ok (.bipush 99, 2) := by decide +kernel
theorem dX5_readMeeting_39 : decode cX5_readMeeting 39 = .ok (.invokevirtual 75, 3) := by decide +kernel
theorem dX5_readMeeting_42 : decode cX5_readMeeting 42 = .ok (.istore 4, 2) := by decide +kernel
theorem dX5_readMeeting_44 : decode cX5_readMeeting 44 = .ok (.iload 4, 2) := by decide +kernel
theorem dX5_readMeeting_46 : decode cX5_readMeeting 46 = .ok (.iconst (-1), 1) := by decide +kernel
theorem dX5_readMeeting_47 : decode cX5_readMeeting 47 = .ok (.if_icmp .ne 5, 3) := by decide +kernel
theorem dX5_readMeeting_50 : decode cX5_readMeeting 50 = .ok (.iconst 0, 1) := by decide +kernel
theorem dX5_readMeeting_51 : decode cX5_readMeeting 51 = .ok (.ireturn, 1) := by decide +kernel
theorem dX5_readMeeting_52 : decode cX5_readMeeting 52 = .ok (.aload_n 0, 1) := by decide +kernel
theorem dX5_readMeeting_53 : decode cX5_readMeeting 53 = .ok (.invokevirtual 35, 3) := by decide +kernel
theorem dX5_readMeeting_56 : decode cX5_readMeeting 56 = .ok (.aload_n 1, 1) := by decide +kernel
theorem dX5_readMeeting_57 : decode cX5_readMeeting 57 = .ok (.iload_n 2, 1) := by decide +kernel
theorem dX5_readMeeting_58 : decode cX5_readMeeting 58 = .ok (.iload_n 3, 1) := by decide +kernel
theorem dX5_readMeeting_59 : decode cX5_readMeeting 59 = .ok (.iload 4, 2) := by decide +kernel
theorem dX5_readMeeting_61 : decode cX5_readMeeting 61 = .ok (.invokevirtual 102, 3) := by decide +kernel
theorem dX5_readMeeting_64 : decode cX5_readMeeting 64 = .ok (.iconst 1, 1) := by decide +kernel
theorem dX5_readMeeting_65 : decode cX5_readMeeting 65 = .ok (.ireturn, 1) := by decide +kernel
set_option maxRecDepth 100000 in
theorem B_X5_readMeeting_0 {d : Nat} {h : AbH} {K : Option AbV → AbH → Prop} {x0 : Nat} {x1 : Option Nat} (hh : wpCV h (some x0) 4 (fun b17 => Vm d m_X5_advance [vR (some b17)] h (kV (fun h1 => wpCV h1 (some x0) 4 (fun b16 => Vm d m_X5_readPair [vR (some b16)] h1 (kI (fun n3 h2 => ((n3 ≠ (-1) → wpCV h2 (some x0) 4 (fun b15 => Vm d m_X5_number [vR (some b15), vI 0, vI 99] h2 (kI (fun n5 h4 => ((n5 ≠ (-1) → wpCV h4 (some x0) 4 (fun b14 => Vm d m_X5_advance [vR (some b14)] h4 (kV (fun h6 => wpCV h6 (some x0) 4 (fun b13 => Vm d m_X5_number [vR (some b13), vI n5, vI 99] h6 (kI (fun n8 h7 => ((n8 ≠ (-1) → wpCV h7 (some x0) 4 (fun b12 => Vm d m_X5_advance [vR (some b12)] h7 (kV (fun h9 => wpCV h9 x1 7 (fun b11 => Vm d m_X8_setMeeting [vR (some b11), vI n3, vI n5, vI n8] h9 (kV (fun h10 => K (some (vI 1)) h10))))))) ∧ (¬ (n8 ≠ (-1)) → K (some (vI 0)) h7))))))))) ∧ (¬ (n5 ≠ (-1)) → K (some (vI 0)) h4)))))) ∧ (¬ (n3 ≠ (-1)) → K (some (vI 0)) h2))))))))) : Vx (d + 1) m_X5_readMeeting 0 0 0 [some (vR (some x0)), some (vR x1)] [] h K := by
  refine Vx.pad 3 [some (vR (some x0)), some (vR x1), none, none, none] rfl ?_
  refine rr_aload_n dX5_readMeeting_0 rfl rfl ?_
  refine rr_callW (bc' := 0) (bs' := 0) (q := (some x0)) (av := []) (st := []) mf_X5_advance dX5_readMeeting_1 rfl q_231 q_233 qs_0 ⟨_, _, rfl⟩ rfl (by decide) (Nat.le_refl _) (Nat.le_refl _) hh (rr_kV fun h1 hh => ?_)
  refine rr_aload_n dX5_readMeeting_4 rfl rfl ?_
  refine rr_callW (bc' := 0) (bs' := 0) (q := (some x0)) (av := []) (st := []) mf_X5_readPair dX5_readMeeting_5 rfl q_376 q_378 qs_10 ⟨_, _, rfl⟩ rfl (by decide) (Nat.le_refl _) (Nat.le_refl _) hh (rr_kI fun n3 h2 hh => ?_)
  refine rr_istore_n (ls' := [some (vR (some x0)), some (vR x1), some (vI n3), none, none]) dX5_readMeeting_8 rfl (by decide) (fun _ z => by cases z) rfl ?_
  refine rr_iload_n dX5_readMeeting_9 rfl rfl ?_
  refine rr_iconst dX5_readMeeting_10 rfl ⟨by decide, by decide⟩ ?_
  refine rr_icmp_ne (tgt := 16) dX5_readMeeting_11 rfl (by decide) (fun hc11 => ?_) (fun hc11 => ?_)
  · have hh := hh.1 hc11
    refine rr_aload_n dX5_readMeeting_16 rfl rfl ?_
    refine rr_iconst dX5_readMeeting_17 rfl ⟨by decide, by decide⟩ ?_
    refine rr_bipush dX5_readMeeting_18 rfl ⟨by decide, by decide⟩ rfl ?_
    refine rr_callW (bc' := 0) (bs' := 0) (q := (some x0)) (av := [vI 0, vI 99]) (st := []) mf_X5_number dX5_readMeeting_20 rfl q_306 q_308 qs_5 ⟨_, _, rfl⟩ rfl (by decide) (Nat.le_refl _) (Nat.le_refl _) hh (rr_kI fun n5 h4 hh => ?_)
    refine rr_istore_n (ls' := [some (vR (some x0)), some (vR x1), some (vI n3), some (vI n5), none]) dX5_readMeeting_23 rfl (by decide) (fun _ z => by cases z) rfl ?_
    refine rr_iload_n dX5_readMeeting_24 rfl rfl ?_
    refine rr_iconst dX5_readMeeting_25 rfl ⟨by decide, by decide⟩ ?_
    refine rr_icmp_ne (tgt := 31) dX5_readMeeting_26 rfl (by decide) (fun hc26 => ?_) (fun hc26 => ?_)
    · have hh := hh.1 hc26
      refine rr_aload_n dX5_readMeeting_31 rfl rfl ?_
      refine rr_callW (bc' := 0) (bs' := 0) (q := (some x0)) (av := []) (st := []) mf_X5_advance dX5_readMeeting_32 rfl q_231 q_233 qs_0 ⟨_, _, rfl⟩ rfl (by decide) (Nat.le_refl _) (Nat.le_refl _) hh (rr_kV fun h6 hh => ?_)
      refine rr_aload_n dX5_readMeeting_35 rfl rfl ?_
      refine rr_iload_n dX5_readMeeting_36 rfl rfl ?_
      refine rr_bipush dX5_readMeeting_37 rfl ⟨by decide, by decide⟩ rfl ?_
      refine rr_callW (bc' := 0) (bs' := 0) (q := (some x0)) (av := [vI n5, vI 99]) (st := []) mf_X5_number dX5_readMeeting_39 rfl q_306 q_308 qs_5 ⟨_, _, rfl⟩ rfl (by decide) (Nat.le_refl _) (Nat.le_refl _) hh (rr_kI fun n8 h7 hh => ?_)
      refine rr_istore (ls' := [some (vR (some x0)), some (vR x1), some (vI n3), some (vI n5), some (vI n8)]) dX5_readMeeting_42 rfl (by decide) (fun _ z => by cases z) rfl ?_
      refine rr_iload dX5_readMeeting_44 rfl rfl ?_
      refine rr_iconst dX5_readMeeting_46 rfl ⟨by decide, by decide⟩ ?_
      refine rr_icmp_ne (tgt := 52) dX5_readMeeting_47 rfl (by decide) (fun hc47 => ?_) (fun hc47 => ?_)
      · have hh := hh.1 hc47
        refine rr_aload_n dX5_readMeeting_52 rfl rfl ?_
        refine rr_callW (bc' := 0) (bs' := 0) (q := (some x0)) (av := []) (st := []) mf_X5_advance dX5_readMeeting_53 rfl q_231 q_233 qs_0 ⟨_, _, rfl⟩ rfl (by decide) (Nat.le_refl _) (Nat.le_refl _) hh (rr_kV fun h9 hh => ?_)
        refine rr_aload_n dX5_readMeeting_56 rfl rfl ?_
        refine rr_iload_n dX5_readMeeting_57 rfl rfl ?_
        refine rr_iload_n dX5_readMeeting_58 rfl rfl ?_
        refine rr_iload dX5_readMeeting_59 rfl rfl ?_
        refine rr_callW (bc' := 0) (bs' := 0) (q := x1) (av := [vI n3, vI n5, vI n8]) (st := []) mf_X8_setMeeting dX5_readMeeting_61 rfl q_386 q_223 q_224 ⟨_, _, rfl⟩ rfl (by decide) (Nat.le_refl _) (Nat.le_refl _) hh (rr_kV fun h10 hh => ?_)
        refine rr_iconst dX5_readMeeting_64 rfl ⟨by decide, by decide⟩ ?_
        exact rr_zret dX5_readMeeting_65 rfl rfl hh
      · have hh := hh.2 hc47
        refine rr_iconst dX5_readMeeting_50 rfl ⟨by decide, by decide⟩ ?_
        exact rr_zret dX5_readMeeting_51 rfl rfl hh
    · have hh := hh.2 hc26
      refine rr_iconst dX5_readMeeting_29 rfl ⟨by decide, by decide⟩ ?_
      exact rr_zret dX5_readMeeting_30 rfl rfl hh
  · have hh := hh.2 hc11
    refine rr_iconst dX5_readMeeting_14 rfl ⟨by decide, by decide⟩ ?_
    exact rr_zret dX5_readMeeting_15 rfl rfl hh
theorem dX5_readLoan_0 : decode cX5_readLoan 0 = .ok (.aload_n 1, 1) := by decide +kernel
theorem dX5_readLoan_1 : decode cX5_readLoan 1 = .ok (.getfield 106, 3) := by decide +kernel
theorem dX5_readLoan_4 : decode cX5_readLoan 4 = .ok (.bipush 12, 2) := by decide +kernel
theorem dX5_readLoan_6 : decode cX5_readLoan 6 = .ok (.if_icmp .lt 5, 3) := by decide +kernel
theorem dX5_readLoan_9 : decode cX5_readLoan 9 = .ok (.iconst 0, 1) := by decide +kernel
theorem dX5_readLoan_10 : decode cX5_readLoan 10 = .ok (.ireturn, 1) := by decide +kernel
theorem dX5_readLoan_11 : decode cX5_readLoan 11 = .ok (.aload_n 0, 1) := by decide +kernel
theorem dX5_readLoan_12 : decode cX5_readLoan 12 = .ok (.invokevirtual 35, 3) := by decide +kernel
theorem dX5_readLoan_15 : decode cX5_readLoan 15 = .ok (.aload_n 0, 1) := by decide +kernel
theorem dX5_readLoan_16 : decode cX5_readLoan 16 = .ok (.invokevirtual 99, 3) := by decide +kernel
theorem dX5_readLoan_19 : decode cX5_readLoan 19 = .ok (.istore_n 2, 1) := by decide +kernel
theorem dX5_readLoan_20 : decode cX5_readLoan 20 = .ok (.iload_n 2, 1) := by decide +kernel
theorem dX5_readLoan_21 : decode cX5_readLoan 21 = .ok (.iconst (-1), 1) := by decide +kernel
theorem dX5_readLoan_22 : decode cX5_readLoan 22 = .ok (.if_icmp .ne 5, 3) := by decide +kernel
theorem dX5_readLoan_25 : decode cX5_readLoan 25 = .ok (.iconst 0, 1) := by decide +kernel
theorem dX5_readLoan_26 : decode cX5_readLoan 26 = .ok (.ireturn, 1) := by decide +kernel
theorem dX5_readLoan_27 : decode cX5_readLoan 27 = .ok (.aload_n 0, 1) := by decide +kernel
theorem dX5_readLoan_28 : decode cX5_readLoan 28 = .ok (.bipush 8, 2) := by decide +kernel
theorem dX5_readLoan_30 : decode cX5_readLoan 30 = .ok (.invokevirtual 109, 3) := by decide +kernel
theorem dX5_readLoan_33 : decode cX5_readLoan 33 = .ok (.lstore_n 3, 1) := by decide +kernel
theorem dX5_readLoan_34 : decode cX5_readLoan 34 = .ok (.lload_n 3, 1) := by decide +kernel
theorem dX5_readLoan_35 : decode cX5_readLoan 35 = .ok (.ldc2_w 115, 3) := by decide +kernel
theorem dX5_readLoan_38 : decode cX5_readLoan 38 = .ok (.lcmp, 1) := by decide +kernel
theorem dX5_readLoan_39 : decode cX5_readLoan 39 = .ok (.ifCond .ne 5, 3) := by decide +kernel
theorem dX5_readLoan_42 : decode cX5_readLoan 42 = .ok (.iconst 0, 1) := by decide +kernel
theorem dX5_readLoan_43 : decode cX5_readLoan 43 = .ok (.ireturn, 1) := by decide +kernel
theorem dX5_readLoan_44 : decode cX5_readLoan 44 = .ok (.aload_n 0, 1) := by decide +kernel
theorem dX5_readLoan_45 : decode cX5_readLoan 45 = .ok (.invokevirtual 35, 3) := by decide +kernel
theorem dX5_readLoan_48 : decode cX5_readLoan 48 = .ok (.aload_n 0, 1) := by decide +kernel
theorem dX5_readLoan_49 : decode cX5_readLoan 49 = .ok (.bipush 45, 2) := by decide +kernel
theorem dX5_readLoan_51 : decode cX5_readLoan 51 = .ok (.invokevirtual 42, 3) := by decide +kernel
theorem dX5_readLoan_54 : decode cX5_readLoan 54 = .ok (.ifCond .eq 7, 3) := by decide +kernel
theorem dX5_readLoan_57 : decode cX5_readLoan 57 = .ok (.lconst 0, 1) := by decide +kernel
theorem dX5_readLoan_58 : decode cX5_readLoan 58 = .ok (.goto 9, 3) := by decide +kernel
theorem dX5_readLoan_61 : decode cX5_readLoan 61 = .ok (.aload_n 0, 1) := by decide +kernel
theorem dX5_readLoan_62 : decode cX5_readLoan 62 = .ok (.bipush 10, 2) := by decide +kernel
theorem dX5_readLoan_64 : decode cX5_readLoan 64 = .ok (.invokevirtual 109, 3) := by decide +kernel
theorem dX5_readLoan_67 : decode cX5_readLoan 67 = .ok (.lstore 5, 2) := by decide +kernel
theorem dX5_readLoan_69 : decode cX5_readLoan 69 = .ok (.lload 5, 2) := by decide +kernel
theorem dX5_readLoan_71 : decode cX5_readLoan 71 = .ok (.ldc2_w 115, 3) := by decide +kernel
theorem dX5_readLoan_74 : decode cX5_readLoan 74 = .ok (.lcmp, 1) := by decide +kernel
theorem dX5_readLoan_75 : decode cX5_readLoan 75 = .ok (.ifCond .ne 5, 3) := by decide +kernel
theorem dX5_readLoan_78 : decode cX5_readLoan 78 = .ok (.iconst 0, 1) := by decide +kernel
theorem dX5_readLoan_79 : decode cX5_readLoan 79 = .ok (.ireturn, 1) := by decide +kernel
theorem dX5_readLoan_80 : decode cX5_readLoan 80 = .ok (.aload_n 0, 1) := by decide +kernel
theorem dX5_readLoan_81 : decode cX5_readLoan 81 = .ok (.invokevirtual 35, 3) := by decide +kernel
theorem dX5_readLoan_84 : decode cX5_readLoan 84 = .ok (.aload_n 1, 1) := by decide +kernel
theorem dX5_readLoan_85 : decode cX5_readLoan 85 = .ok (.new 117, 3) := by decide +kernel
theorem dX5_readLoan_88 : decode cX5_readLoan 88 = .ok (.dup, 1) := by decide +kernel
theorem dX5_readLoan_89 : decode cX5_readLoan 89 = .ok (.iload_n 2, 1) := by decide +kernel
theorem dX5_readLoan_90 : decode cX5_readLoan 90 = .ok (.iconst 4, 1) := by decide +kernel
theorem dX5_readLoan_91 : decode cX5_readLoan 91 = .ok (.idiv, 1) := by decide +kernel
theorem dX5_readLoan_92 : decode cX5_readLoan 92 = .ok (.iload_n 2, 1) := by decide +kernel
theorem dX5_readLoan_93 : decode cX5_readLoan 93 = .ok (.iconst 4, 1) := by decide +kernel
theorem dX5_readLoan_94 : decode cX5_readLoan 94 = .ok (.irem, 1) := by decide +kernel
theorem dX5_readLoan_95 : decode cX5_readLoan 95 = .ok (.lload_n 3, 1) := by decide +kernel
theorem dX5_readLoan_96 : decode cX5_readLoan 96 = .ok (.lload 5, 2) := by decide +kernel
theorem dX5_readLoan_98 : decode cX5_readLoan 98 = .ok (.invokespecial 119, 3) := by decide +kernel
theorem dX5_readLoan_101 : decode cX5_readLoan 101 = .ok (.invokevirtual 122, 3) := by decide +kernel
theorem dX5_readLoan_104 : decode cX5_readLoan 104 = .ok (.iconst 1, 1) := by decide +kernel
theorem dX5_readLoan_105 : decode cX5_readLoan 105 = .ok (.ireturn, 1) := by decide +kernel
set_option maxRecDepth 100000 in
theorem B_X5_readLoan_0 {d : Nat} {h : AbH} {K : Option AbV → AbH → Prop} {x0 : Nat} {x1 : Option Nat} (hh : wpGI h x1 7 5 (fun n1 => ((n1 < 12 → wpCV h (some x0) 4 (fun b39 => Vm d m_X5_advance [vR (some b39)] h (kV (fun h2 => wpCV h2 (some x0) 4 (fun b38 => Vm d m_X5_readPair [vR (some b38)] h2 (kI (fun n4 h3 => ((n4 ≠ (-1) → wpCV h3 (some x0) 4 (fun b37 => Vm d m_X5_form [vR (some b37), vI 8] h3 (kL (fun n6 h5 => ((((n6 : Int) ≠ (-1)) → wpCV h5 (some x0) 4 (fun b36 => Vm d m_X5_advance [vR (some b36)] h5 (kV (fun h7 => wpCV h7 (some x0) 4 (fun b35 => Vm d m_X5_isSign [vR (some b35), vI 45] h7 (kI (fun n9 h8 => ((n9 = 0 → wpCV h8 (some x0) 4 (fun b23 => Vm d m_X5_form [vR (some b23), vI 10] h8 (kL (fun n11 h10 => ((((n11 : Int) ≠ (-1)) → wpCV h10 (some x0) 4 (fun b22 => Vm d m_X5_advance [vR (some b22)] h10 (kV (fun h12 => ∀ q13 : Nat, ab_new h12 q13 → ∀ h14 : AbH, h14 = hsO h12 q13 (2, [vI 0, vI 0, vL 0, vL 0]) → (0 ≤ n4 ∧ (0 : Int) < 4) ∧ (0 ≤ n4 ∧ (0 : Int) < 4) ∧ Vm d m_X3_init [vR (some q13), vI (n4 / 4), vI (n4 % 4), vL n6, vL n11] h14 (kV (fun h17 => wpCV h17 x1 7 (fun b19 => Vm d m_X8_addLoan [vR (some b19), vR (some q13)] h17 (kV (fun h18 => K (some (vI 1)) h18))))))))) ∧ (¬ (((n11 : Int) ≠ (-1))) → K (some (vI 0)) h10)))))) ∧ (¬ (n9 = 0) → ((((0 : Int) ≠ (-1)) → wpCV h8 (some x0) 4 (fun b34 => Vm d m_X5_advance [vR (some b34)] h8 (kV (fun h24 => ∀ q25 : Nat, ab_new h24 q25 → ∀ h26 : AbH, h26 = hsO h24 q25 (2, [vI 0, vI 0, vL 0, vL 0]) → (0 ≤ n4 ∧ (0 : Int) < 4) ∧ (0 ≤ n4 ∧ (0 : Int) < 4) ∧ Vm d m_X3_init [vR (some q25), vI (n4 / 4), vI (n4 % 4), vL n6, vL 0] h26 (kV (fun h29 => wpCV h29 x1 7 (fun b31 => Vm d m_X8_addLoan [vR (some b31), vR (some q25)] h29 (kV (fun h30 => K (some (vI 1)) h30))))))))) ∧ (¬ (((0 : Int) ≠ (-1))) → K (some (vI 0)) h8))))))))))) ∧ (¬ (((n6 : Int) ≠ (-1))) → K (some (vI 0)) h5)))))) ∧ (¬ (n4 ≠ (-1)) → K (some (vI 0)) h3))))))))) ∧ (¬ (n1 < 12) → K (some (vI 0)) h)))) : Vx (d + 1) m_X5_readLoan 1 4 0 [some (vR (some x0)), some (vR x1)] [] h K := by
  refine Vx.pad 5 [some (vR (some x0)), some (vR x1), none, none, none, none, none] rfl ?_
  refine rr_aload_n dX5_readLoan_0 rfl rfl ?_
  refine rr_getI cf_X8 (j := 5) (by decide) dX5_readLoan_1 rfl q_43 hh (fun n1 hh => ?_)
  refine rr_bipush dX5_readLoan_4 rfl ⟨by decide, by decide⟩ rfl ?_
  refine rr_icmp_lt (tgt := 11) dX5_readLoan_6 rfl (by decide) (fun hc6 => ?_) (fun hc6 => ?_)
  · have hh := hh.1 hc6
    refine rr_aload_n dX5_readLoan_11 rfl rfl ?_
    refine rr_callW (bc' := 1) (bs' := 4) (q := (some x0)) (av := []) (st := []) mf_X5_advance dX5_readLoan_12 rfl q_231 q_233 qs_0 ⟨_, _, rfl⟩ rfl (by decide) (Nat.le_refl _) (Nat.le_refl _) hh (rr_kV fun h2 hh => ?_)
    refine rr_aload_n dX5_readLoan_15 rfl rfl ?_
    refine rr_callW (bc' := 1) (bs' := 4) (q := (some x0)) (av := []) (st := []) mf_X5_readPair dX5_readLoan_16 rfl q_376 q_378 qs_10 ⟨_, _, rfl⟩ rfl (by decide) (Nat.le_refl _) (Nat.le_refl _) hh (rr_kI fun n4 h3 hh => ?_)
    refine rr_istore_n (ls' := [some (vR (some x0)), some (vR x1), some (vI n4), none, none, none, none]) dX5_readLoan_19 rfl (by decide) (fun _ z => by cases z) rfl ?_
    refine rr_iload_n dX5_readLoan_20 rfl rfl ?_
    refine rr_iconst dX5_readLoan_21 rfl ⟨by decide, by decide⟩ ?_
    refine rr_icmp_ne (tgt := 27) dX5_readLoan_22 rfl (by decide) (fun hc22 => ?_) (fun hc22 => ?_)
    · have hh := hh.1 hc22
      refine rr_aload_n dX5_readLoan_27 rfl rfl ?_
      refine rr_bipush dX5_readLoan_28 rfl ⟨by decide, by decide⟩ rfl ?_
      refine rr_callW (bc' := 1) (bs' := 4) (q := (some x0)) (av := [vI 8]) (st := []) mf_X5_form dX5_readLoan_30 rfl q_392 q_394 qs_12 ⟨_, _, rfl⟩ rfl (by decide) (Nat.le_refl _) (Nat.le_refl _) hh (rr_kL fun n6 h5 hh => ?_)
      refine rr_lstore_n (ls' := [some (vR (some x0)), some (vR x1), some (vI n4), some (vL n6), none, none, none]) dX5_readLoan_33 rfl (by decide) (fun _ z => by cases z) rfl ?_
      refine rr_lload_n dX5_readLoan_34 rfl rfl ?_
      refine rr_ldc2 (n := -1) dX5_readLoan_35 rfl q_396 (by decide) ⟨by decide, by decide⟩ ?_
      refine rr_lcmp dX5_readLoan_38 rfl ?_
      refine rr_if_ne (tgt := 44) dX5_readLoan_39 rfl (by decide) (fun hc39 => ?_) (fun hc39 => ?_)
      · have hh := hh.1 (lcm_ne.mp hc39)
        refine rr_aload_n dX5_readLoan_44 rfl rfl ?_
        refine rr_callW (bc' := 1) (bs' := 4) (q := (some x0)) (av := []) (st := []) mf_X5_advance dX5_readLoan_45 rfl q_231 q_233 qs_0 ⟨_, _, rfl⟩ rfl (by decide) (Nat.le_refl _) (Nat.le_refl _) hh (rr_kV fun h7 hh => ?_)
        refine rr_aload_n dX5_readLoan_48 rfl rfl ?_
        refine rr_bipush dX5_readLoan_49 rfl ⟨by decide, by decide⟩ rfl ?_
        refine rr_callW (bc' := 1) (bs' := 4) (q := (some x0)) (av := [vI 45]) (st := []) mf_X5_isSign dX5_readLoan_51 rfl q_318 q_320 qs_7 ⟨_, _, rfl⟩ rfl (by decide) (Nat.le_refl _) (Nat.le_refl _) hh (rr_kI fun n9 h8 hh => ?_)
        refine rr_if_eq (tgt := 61) dX5_readLoan_54 rfl (by decide) (fun hc54 => ?_) (fun hc54 => ?_)
        · have hh := hh.1 hc54
          refine rr_aload_n dX5_readLoan_61 rfl rfl ?_
          refine rr_bipush dX5_readLoan_62 rfl ⟨by decide, by decide⟩ rfl ?_
          refine rr_callW (bc' := 1) (bs' := 4) (q := (some x0)) (av := [vI 10]) (st := []) mf_X5_form dX5_readLoan_64 rfl q_392 q_394 qs_12 ⟨_, _, rfl⟩ rfl (by decide) (Nat.le_refl _) (Nat.le_refl _) hh (rr_kL fun n11 h10 hh => ?_)
          refine rr_lstore (ls' := [some (vR (some x0)), some (vR x1), some (vI n4), some (vL n6), none, some (vL n11), none]) dX5_readLoan_67 rfl (by decide) (fun _ z => by cases z) rfl ?_
          refine rr_lload dX5_readLoan_69 rfl rfl ?_
          refine rr_ldc2 (n := -1) dX5_readLoan_71 rfl q_396 (by decide) ⟨by decide, by decide⟩ ?_
          refine rr_lcmp dX5_readLoan_74 rfl ?_
          refine rr_if_ne (tgt := 80) dX5_readLoan_75 rfl (by decide) (fun hc75 => ?_) (fun hc75 => ?_)
          · have hh := hh.1 (lcm_ne.mp hc75)
            refine rr_aload_n dX5_readLoan_80 rfl rfl ?_
            refine rr_callW (bc' := 1) (bs' := 4) (q := (some x0)) (av := []) (st := []) mf_X5_advance dX5_readLoan_81 rfl q_231 q_233 qs_0 ⟨_, _, rfl⟩ rfl (by decide) (Nat.le_refl _) (Nat.le_refl _) hh (rr_kV fun h12 hh => ?_)
            refine rr_aload_n dX5_readLoan_84 rfl rfl ?_
            refine rr_new (bc' := 0) (bs' := 0) cf_X3 (fs := [vI 0, vI 0, vL 0, vL 0]) dX5_readLoan_85 rfl q_400 q_401 q_16 (fun j hj => by rcases (show j = 0 ∨ j = 1 ∨ j = 2 ∨ j = 3 by omega) with rfl | rfl | rfl | rfl <;> rfl) (by intro v hv; simp only [List.mem_cons, List.not_mem_nil, or_false] at hv; rcases hv with rfl | rfl | rfl | rfl <;> first | trivial | exact ⟨by decide, by decide⟩) (by decide) (by decide) (fun q13 hz => ?_)
            have hh := hh q13 hz _ rfl
            generalize hsO h12 q13 (2, [vI 0, vI 0, vL 0, vL 0]) = h14 at hh ⊢
            refine rr_dup dX5_readLoan_88 rfl rfl ?_
            refine rr_iload_n dX5_readLoan_89 rfl rfl ?_
            refine rr_iconst dX5_readLoan_90 rfl ⟨by decide, by decide⟩ ?_
            obtain ⟨hz15, hh⟩ := hh
            refine rr_idiv dX5_readLoan_91 rfl hz15 ?_
            refine rr_iload_n dX5_readLoan_92 rfl rfl ?_
            refine rr_iconst dX5_readLoan_93 rfl ⟨by decide, by decide⟩ ?_
            obtain ⟨hz16, hh⟩ := hh
            refine rr_irem dX5_readLoan_94 rfl hz16 ?_
            refine rr_lload_n dX5_readLoan_95 rfl rfl ?_
            refine rr_lload dX5_readLoan_96 rfl rfl ?_
            refine rr_callI (bc' := 0) (bs' := 0) (b := q13) (av := [vI (n4 / 4), vI (n4 % 4), vL n6, vL n11]) (st := [vR (some q13), vR x1]) mf_X3_init rfl rfl dX5_readLoan_98 rfl q_402 q_403 rfl (cs_le _ (Nat.le_of_ble_eq_true rfl)) (Nat.le_refl _) (Nat.le_refl _) hh (rr_kV fun h17 hh => ?_)
            refine rr_callW (bc' := 0) (bs' := 0) (q := x1) (av := [vR (some q13)]) (st := []) mf_X8_addLoan dX5_readLoan_101 rfl q_428 q_429 q_430 ⟨_, _, rfl⟩ rfl (by decide) (Nat.le_refl _) (Nat.le_refl _) hh (rr_kV fun h18 hh => ?_)
            refine rr_iconst dX5_readLoan_104 rfl ⟨by decide, by decide⟩ ?_
            exact rr_zret dX5_readLoan_105 rfl rfl hh
          · have hh := hh.2 (fun z => hc75 (lcm_ne.mpr z))
            refine rr_iconst dX5_readLoan_78 rfl ⟨by decide, by decide⟩ ?_
            exact rr_zret dX5_readLoan_79 rfl rfl hh
        · have hh := hh.2 hc54
          refine rr_lconst (n := 0) dX5_readLoan_57 rfl ⟨by decide, by decide⟩ rfl ?_
          refine rr_goto (pc' := 67) dX5_readLoan_58 (by decide) ?_
          refine rr_lstore (ls' := [some (vR (some x0)), some (vR x1), some (vI n4), some (vL n6), none, some (vL 0), none]) dX5_readLoan_67 rfl (by decide) (fun _ z => by cases z) rfl ?_
          refine rr_lload dX5_readLoan_69 rfl rfl ?_
          refine rr_ldc2 (n := -1) dX5_readLoan_71 rfl q_396 (by decide) ⟨by decide, by decide⟩ ?_
          refine rr_lcmp dX5_readLoan_74 rfl ?_
          refine rr_if_ne (tgt := 80) dX5_readLoan_75 rfl (by decide) (fun hc75 => ?_) (fun hc75 => ?_)
          · have hh := hh.1 (lcm_ne.mp hc75)
            refine rr_aload_n dX5_readLoan_80 rfl rfl ?_
            refine rr_callW (bc' := 1) (bs' := 4) (q := (some x0)) (av := []) (st := []) mf_X5_advance dX5_readLoan_81 rfl q_231 q_233 qs_0 ⟨_, _, rfl⟩ rfl (by decide) (Nat.le_refl _) (Nat.le_refl _) hh (rr_kV fun h24 hh => ?_)
            refine rr_aload_n dX5_readLoan_84 rfl rfl ?_
            refine rr_new (bc' := 0) (bs' := 0) cf_X3 (fs := [vI 0, vI 0, vL 0, vL 0]) dX5_readLoan_85 rfl q_400 q_401 q_16 (fun j hj => by rcases (show j = 0 ∨ j = 1 ∨ j = 2 ∨ j = 3 by omega) with rfl | rfl | rfl | rfl <;> rfl) (by intro v hv; simp only [List.mem_cons, List.not_mem_nil, or_false] at hv; rcases hv with rfl | rfl | rfl | rfl <;> first | trivial | exact ⟨by decide, by decide⟩) (by decide) (by decide) (fun q25 hz => ?_)
            have hh := hh q25 hz _ rfl
            generalize hsO h24 q25 (2, [vI 0, vI 0, vL 0, vL 0]) = h26 at hh ⊢
            refine rr_dup dX5_readLoan_88 rfl rfl ?_
            refine rr_iload_n dX5_readLoan_89 rfl rfl ?_
            refine rr_iconst dX5_readLoan_90 rfl ⟨by decide, by decide⟩ ?_
            obtain ⟨hz27, hh⟩ := hh
            refine rr_idiv dX5_readLoan_91 rfl hz27 ?_
            refine rr_iload_n dX5_readLoan_92 rfl rfl ?_
            refine rr_iconst dX5_readLoan_93 rfl ⟨by decide, by decide⟩ ?_
            obtain ⟨hz28, hh⟩ := hh
            refine rr_irem dX5_readLoan_94 rfl hz28 ?_
            refine rr_lload_n dX5_readLoan_95 rfl rfl ?_
            refine rr_lload dX5_readLoan_96 rfl rfl ?_
            refine rr_callI (bc' := 0) (bs' := 0) (b := q25) (av := [vI (n4 / 4), vI (n4 % 4), vL n6, vL 0]) (st := [vR (some q25), vR x1]) mf_X3_init rfl rfl dX5_readLoan_98 rfl q_402 q_403 rfl (cs_le _ (Nat.le_of_ble_eq_true rfl)) (Nat.le_refl _) (Nat.le_refl _) hh (rr_kV fun h29 hh => ?_)
            refine rr_callW (bc' := 0) (bs' := 0) (q := x1) (av := [vR (some q25)]) (st := []) mf_X8_addLoan dX5_readLoan_101 rfl q_428 q_429 q_430 ⟨_, _, rfl⟩ rfl (by decide) (Nat.le_refl _) (Nat.le_refl _) hh (rr_kV fun h30 hh => ?_)
            refine rr_iconst dX5_readLoan_104 rfl ⟨by decide, by decide⟩ ?_
            exact rr_zret dX5_readLoan_105 rfl rfl hh
          · have hh := hh.2 (fun z => hc75 (lcm_ne.mpr z))
            refine rr_iconst dX5_readLoan_78 rfl ⟨by decide, by decide⟩ ?_
            exact rr_zret dX5_readLoan_79 rfl rfl hh
      · have hh := hh.2 (fun z => hc39 (lcm_ne.mpr z))
        refine rr_iconst dX5_readLoan_42 rfl ⟨by decide, by decide⟩ ?_
        exact rr_zret dX5_readLoan_43 rfl rfl hh
    · have hh := hh.2 hc22
      refine rr_iconst dX5_readLoan_25 rfl ⟨by decide, by decide⟩ ?_
      exact rr_zret dX5_readLoan_26 rfl rfl hh
  · have hh := hh.2 hc6
    refine rr_iconst dX5_readLoan_9 rfl ⟨by decide, by decide⟩ ?_
    exact rr_zret dX5_readLoan_10 rfl rfl hh
theorem dX5_readPair_0 : decode cX5_readPair 0 = .ok (.aload_n 0, 1) := by decide +kernel
theorem dX5_readPair_1 : decode cX5_readPair 1 = .ok (.iconst 0, 1) := by decide +kernel
theorem dX5_readPair_2 : decode cX5_readPair 2 = .ok (.iconst 3, 1) := by decide +kernel
theorem dX5_readPair_3 : decode cX5_readPair 3 = .ok (.invokevirtual 75, 3) := by decide +kernel
theorem dX5_readPair_6 : decode cX5_readPair 6 = .ok (.istore_n 1, 1) := by decide +kernel
theorem dX5_readPair_7 : decode cX5_readPair 7 = .ok (.iload_n 1, 1) := by decide +kernel
theorem dX5_readPair_8 : decode cX5_readPair 8 = .ok (.iconst (-1), 1) := by decide +kernel
theorem dX5_readPair_9 : decode cX5_readPair 9 = .ok (.if_icmp .ne 5, 3) := by decide +kernel
theorem dX5_readPair_12 : decode cX5_readPair 12 = .ok (.iconst (-1), 1) := by decide +kernel
theorem dX5_readPair_13 : decode cX5_readPair 13 = .ok (.ireturn, 1) := by decide +kernel
theorem dX5_readPair_14 : decode cX5_readPair 14 = .ok (.aload_n 0, 1) := by decide +kernel
theorem dX5_readPair_15 : decode cX5_readPair 15 = .ok (.invokevirtual 35, 3) := by decide +kernel
theorem dX5_readPair_18 : decode cX5_readPair 18 = .ok (.iload_n 1, 1) := by decide +kernel
theorem dX5_readPair_19 : decode cX5_readPair 19 = .ok (.aload_n 0, 1) := by decide +kernel
theorem dX5_readPair_20 : decode cX5_readPair 20 = .ok (.iconst 0, 1) := by decide +kernel
theorem dX5_readPair_21 : decode cX5_readPair 21 = .ok (.iconst 3, 1) := by decide +kernel
theorem dX5_readPair_22 : decode cX5_readPair 22 = .ok (.invokevirtual 75, 3) := by decide +kernel
theorem dX5_readPair_25 : decode cX5_readPair 25 = .ok (.invokestatic 126, 3) := by decide +kernel
theorem dX5_readPair_28 : decode cX5_readPair 28 = .ok (.istore_n 2, 1) := by decide +kernel
theorem dX5_readPair_29 : decode cX5_readPair 29 = .ok (.iload_n 2, 1) := by decide +kernel
theorem dX5_readPair_30 : decode cX5_readPair 30 = .ok (.iconst (-1), 1) := by decide +kernel
theorem dX5_readPair_31 : decode cX5_readPair 31 = .ok (.if_icmp .eq 7, 3) := by decide +kernel
theorem dX5_readPair_34 : decode cX5_readPair 34 = .ok (.aload_n 0, 1) := by decide +kernel
theorem dX5_readPair_35 : decode cX5_readPair 35 = .ok (.invokevirtual 35, 3) := by decide +kernel
theorem dX5_readPair_38 : decode cX5_readPair 38 = .ok (.iload_n 2, 1) := by decide +kernel
theorem dX5_readPair_39 : decode cX5_readPair 39 = .ok (.ireturn, 1) := by decide +kernel
set_option maxRecDepth 100000 in
theorem B_X5_readPair_0 {d : Nat} {h : AbH} {K : Option AbV → AbH → Prop} {x0 : Nat} (hh : wpCV h (some x0) 4 (fun b12 => Vm d m_X5_number [vR (some b12), vI 0, vI 3] h (kI (fun n2 h1 => ((n2 ≠ (-1) → wpCV h1 (some x0) 4 (fun b11 => Vm d m_X5_advance [vR (some b11)] h1 (kV (fun h3 => wpCV h3 (some x0) 4 (fun b10 => Vm d m_X5_number [vR (some b10), vI 0, vI 3] h3 (kI (fun n5 h4 => Vm d m_X9_pairOf [vI n2, vI n5] h4 (kI (fun n7 h6 => ((n7 = (-1) → K (some (vI n7)) h6) ∧ (¬ (n7 = (-1)) → wpCV h6 (some x0) 4 (fun b9 => Vm d m_X5_advance [vR (some b9)] h6 (kV (fun h8 => K (some (vI n7)) h8)))))))))))))) ∧ (¬ (n2 ≠ (-1)) → K (some (vI (-1))) h1)))))) : Vx (d + 1) m_X5_readPair 0 0 0 [some (vR (some x0))] [] h K := by
  refine Vx.pad 2 [some (vR (some x0)), none, none] rfl ?_
  refine rr_aload_n dX5_readPair_0 rfl rfl ?_
  refine rr_iconst dX5_readPair_1 rfl ⟨by decide, by decide⟩ ?_
  refine rr_iconst dX5_readPair_2 rfl ⟨by decide, by decide⟩ ?_
  refine rr_callW (bc' := 0) (bs' := 0) (q := (some x0)) (av := [vI 0, vI 3]) (st := []) mf_X5_number dX5_readPair_3 rfl q_306 q_308 qs_5 ⟨_, _, rfl⟩ rfl (by decide) (Nat.le_refl _) (Nat.le_refl _) hh (rr_kI fun n2 h1 hh => ?_)
  refine rr_istore_n (ls' := [some (vR (some x0)), some (vI n2), none]) dX5_readPair_6 rfl (by decide) (fun _ z => by cases z) rfl ?_
  refine rr_iload_n dX5_readPair_7 rfl rfl ?_
  refine rr_iconst dX5_readPair_8 rfl ⟨by decide, by decide⟩ ?_
  refine rr_icmp_ne (tgt := 14) dX5_readPair_9 rfl (by decide) (fun hc9 => ?_) (fun hc9 => ?_)
  · have hh := hh.1 hc9
    refine rr_aload_n dX5_readPair_14 rfl rfl ?_
    refine rr_callW (bc' := 0) (bs' := 0) (q := (some x0)) (av := []) (st := []) mf_X5_advance dX5_readPair_15 rfl q_231 q_233 qs_0 ⟨_, _, rfl⟩ rfl (by decide) (Nat.le_refl _) (Nat.le_refl _) hh (rr_kV fun h3 hh => ?_)
    refine rr_iload_n dX5_readPair_18 rfl rfl ?_
    refine rr_aload_n dX5_readPair_19 rfl rfl ?_
    refine rr_iconst dX5_readPair_20 rfl ⟨by decide, by decide⟩ ?_
    refine rr_iconst dX5_readPair_21 rfl ⟨by decide, by decide⟩ ?_
    refine rr_callW (bc' := 0) (bs' := 0) (q := (some x0)) (av := [vI 0, vI 3]) (st := [vI n2]) mf_X5_number dX5_readPair_22 rfl q_306 q_308 qs_5 ⟨_, _, rfl⟩ rfl (show 1 ≤ 8 by decide) (Nat.le_refl _) (Nat.le_refl _) hh (rr_kI fun n5 h4 hh => ?_)
    refine rr_callSN (bc' := 0) (bs' := 0) (av := [vI n2, vI n5]) (st := []) mf_X9_pairOf dX5_readPair_25 rfl qn_7 q_381 rfl (by decide) (Nat.le_refl _) (Nat.le_refl _) hh (rr_kI fun n7 h6 hh => ?_)
    refine rr_istore_n (ls' := [some (vR (some x0)), some (vI n2), some (vI n7)]) dX5_readPair_28 rfl (by decide) (fun _ z => by cases z) rfl ?_
    refine rr_iload_n dX5_readPair_29 rfl rfl ?_
    refine rr_iconst dX5_readPair_30 rfl ⟨by decide, by decide⟩ ?_
    refine rr_icmp_eq (tgt := 38) dX5_readPair_31 rfl (by decide) (fun hc31 => ?_) (fun hc31 => ?_)
    · have hh := hh.1 hc31
      refine rr_iload_n dX5_readPair_38 rfl rfl ?_
      exact rr_iret dX5_readPair_39 rfl hh
    · have hh := hh.2 hc31
      refine rr_aload_n dX5_readPair_34 rfl rfl ?_
      refine rr_callW (bc' := 0) (bs' := 0) (q := (some x0)) (av := []) (st := []) mf_X5_advance dX5_readPair_35 rfl q_231 q_233 qs_0 ⟨_, _, rfl⟩ rfl (by decide) (Nat.le_refl _) (Nat.le_refl _) hh (rr_kV fun h8 hh => ?_)
      refine rr_iload_n dX5_readPair_38 rfl rfl ?_
      exact rr_iret dX5_readPair_39 rfl hh
  · have hh := hh.2 hc9
    refine rr_iconst dX5_readPair_12 rfl ⟨by decide, by decide⟩ ?_
    exact rr_iret dX5_readPair_13 rfl hh
theorem dX5_number_0 : decode cX5_number 0 = .ok (.aload_n 0, 1) := by decide +kernel
theorem dX5_number_1 : decode cX5_number 1 = .ok (.getfield 28, 3) := by decide +kernel
theorem dX5_number_4 : decode cX5_number 4 = .ok (.iconst 2, 1) := by decide +kernel
theorem dX5_number_5 : decode cX5_number 5 = .ok (.if_icmp .ne 16, 3) := by decide +kernel
theorem dX5_number_8 : decode cX5_number 8 = .ok (.aload_n 0, 1) := by decide +kernel
theorem dX5_number_9 : decode cX5_number 9 = .ok (.getfield 25, 3) := by decide +kernel
theorem dX5_number_12 : decode cX5_number 12 = .ok (.aload_n 0, 1) := by decide +kernel
theorem dX5_number_13 : decode cX5_number 13 = .ok (.getfield 22, 3) := by decide +kernel
theorem dX5_number_16 : decode cX5_number 16 = .ok (.isub, 1) := by decide +kernel
theorem dX5_number_17 : decode cX5_number 17 = .ok (.iconst 2, 1) := by decide +kernel
theorem dX5_number_18 : decode cX5_number 18 = .ok (.if_icmp .le 5, 3) := by decide +kernel
theorem dX5_number_21 : decode cX5_number 21 = .ok (.iconst (-1), 1) := by decide +kernel
theorem dX5_number_22 : decode cX5_number 22 = .ok (.ireturn, 1) := by decide +kernel
theorem dX5_number_23 : decode cX5_number 23 = .ok (.iconst 0, 1) := by decide +kernel
theorem dX5_number_24 : decode cX5_number 24 = .ok (.istore_n 3, 1) := by decide +kernel
theorem dX5_number_25 : decode cX5_number 25 = .ok (.aload_n 0, 1) := by decide +kernel
theorem dX5_number_26 : decode cX5_number 26 = .ok (.getfield 22, 3) := by decide +kernel
theorem dX5_number_29 : decode cX5_number 29 = .ok (.istore 4, 2) := by decide +kernel
theorem dX5_number_31 : decode cX5_number 31 = .ok (.iload 4, 2) := by decide +kernel
theorem dX5_number_33 : decode cX5_number 33 = .ok (.aload_n 0, 1) := by decide +kernel
theorem dX5_number_34 : decode cX5_number 34 = .ok (.getfield 25, 3) := by decide +kernel
theorem dX5_number_37 : decode cX5_number 37 = .ok (.if_icmp .ge 24, 3) := by decide +kernel
theorem dX5_number_40 : decode cX5_number 40 = .ok (.bipush 10, 2) := by decide +kernel
theorem dX5_number_42 : decode cX5_number 42 = .ok (.iload_n 3, 1) := by decide +kernel
theorem dX5_number_43 : decode cX5_number 43 = .ok (.imul, 1) := by decide +kernel
theorem dX5_number_44 : decode cX5_number 44 = .ok (.aload_n 0, 1) := by decide +kernel
theorem dX5_number_45 : decode cX5_number 45 = .ok (.iload 4, 2) := by decide +kernel
theorem dX5_number_47 : decode cX5_number 47 = .ok (.invokevirtual 129, 3) := by decide +kernel
theorem dX5_number_50 : decode cX5_number 50 = .ok (.iadd, 1) := by decide +kernel
theorem dX5_number_51 : decode cX5_number 51 = .ok (.bipush 48, 2) := by decide +kernel
theorem dX5_number_53 : decode cX5_number 53 = .ok (.isub, 1) := by decide +kernel
theorem dX5_number_54 : decode cX5_number 54 = .ok (.istore_n 3, 1) := by decide +kernel
theorem dX5_number_55 : decode cX5_number 55 = .ok (.iinc 4 1, 3) := by decide +kernel
theorem dX5_number_58 : decode cX5_number 58 = .ok (.goto (-27), 3) := by decide +kernel
theorem dX5_number_61 : decode cX5_number 61 = .ok (.iload_n 3, 1) := by decide +kernel
theorem dX5_number_62 : decode cX5_number 62 = .ok (.iload_n 1, 1) := by decide +kernel
theorem dX5_number_63 : decode cX5_number 63 = .ok (.iload_n 2, 1) := by decide +kernel
theorem dX5_number_64 : decode cX5_number 64 = .ok (.invokestatic 31, 3) := by decide +kernel
theorem dX5_number_67 : decode cX5_number 67 = .ok (.ifCond .eq 7, 3) := by decide +kernel
theorem dX5_number_70 : decode cX5_number 70 = .ok (.iload_n 3, 1) := by decide +kernel
theorem dX5_number_71 : decode cX5_number 71 = .ok (.goto 4, 3) := by decide +kernel
theorem dX5_number_74 : decode cX5_number 74 = .ok (.iconst (-1), 1) := by decide +kernel
theorem dX5_number_75 : decode cX5_number 75 = .ok (.ireturn, 1) := by decide +kernel
set_option maxRecDepth 100000 in
theorem B_X5_number_0 {d : Nat} {h : AbH} {K : Option AbV → AbH → Prop} {x0 : Nat} {x1 : Int} {x2 : Int} (hh : wpGI h (some x0) 4 5 (fun n1 => ((n1 ≠ 2 → K (some (vI (-1))) h) ∧ (¬ (n1 ≠ 2) → wpGI h (some x0) 4 4 (fun n2 => wpGI h (some x0) 4 3 (fun n3 => in32 (n2 - n3) ∧ (((n2 - n3) ≤ 2 → wpGI h (some x0) 4 3 (fun n5 => Vx (d + 1) m_X5_number 0 0 31 [some (vR (some x0)), some (vI x1), some (vI x2), some (vI 0), some (vI n5)] [] h K)) ∧ (¬ ((n2 - n3) ≤ 2) → K (some (vI (-1))) h)))))))) : Vx (d + 1) m_X5_number 0 0 0 [some (vR (some x0)), some (vI x1), some (vI x2)] [] h K := by
  refine Vx.pad 2 [some (vR (some x0)), some (vI x1), some (vI x2), none, none] rfl ?_
  refine rr_aload_n dX5_number_0 rfl rfl ?_
  refine rr_getI cf_X5 (j := 5) (by decide) dX5_number_1 rfl q_88 hh (fun n1 hh => ?_)
  refine rr_iconst dX5_number_4 rfl ⟨by decide, by decide⟩ ?_
  refine rr_icmp_ne (tgt := 21) dX5_number_5 rfl (by decide) (fun hc5 => ?_) (fun hc5 => ?_)
  · have hh := hh.1 hc5
    refine rr_iconst dX5_number_21 rfl ⟨by decide, by decide⟩ ?_
    exact rr_iret dX5_number_22 rfl hh
  · have hh := hh.2 hc5
    refine rr_aload_n dX5_number_8 rfl rfl ?_
    refine rr_getI cf_X5 (j := 4) (by decide) dX5_number_9 rfl q_87 hh (fun n2 hh => ?_)
    refine rr_aload_n dX5_number_12 rfl rfl ?_
    refine rr_getI cf_X5 (j := 3) (by decide) dX5_number_13 rfl q_86 hh (fun n3 hh => ?_)
    obtain ⟨hz4, hh⟩ := hh
    refine rr_isub dX5_number_16 rfl hz4 ?_
    refine rr_iconst dX5_number_17 rfl ⟨by decide, by decide⟩ ?_
    refine rr_icmp_le (tgt := 23) dX5_number_18 rfl (by decide) (fun hc18 => ?_) (fun hc18 => ?_)
    · have hh := hh.1 hc18
      refine rr_iconst dX5_number_23 rfl ⟨by decide, by decide⟩ ?_
      refine rr_istore_n (ls' := [some (vR (some x0)), some (vI x1), some (vI x2), some (vI 0), none]) dX5_number_24 rfl (by decide) (fun _ z => by cases z) rfl ?_
      refine rr_aload_n dX5_number_25 rfl rfl ?_
      refine rr_getI cf_X5 (j := 3) (by decide) dX5_number_26 rfl q_86 hh (fun n5 hh => ?_)
      refine rr_istore (ls' := [some (vR (some x0)), some (vI x1), some (vI x2), some (vI 0), some (vI n5)]) dX5_number_29 rfl (by decide) (fun _ z => by cases z) rfl ?_
      exact hh
    · have hh := hh.2 hc18
      refine rr_iconst dX5_number_21 rfl ⟨by decide, by decide⟩ ?_
      exact rr_iret dX5_number_22 rfl hh
set_option maxRecDepth 100000 in
theorem B_X5_number_31 {d : Nat} {h : AbH} {K : Option AbV → AbH → Prop} {x0 : Nat} {x1 : Int} {x2 : Int} {x3 : Int} {x4 : Int} {bc bs : Nat} (hh : wpGI h (some x0) 4 4 (fun n1 => ((n1 ≤ x4 → Vm d m_X9_within [vI x3, vI x1, vI x2] h (kI (fun n3 h2 => ((n3 = 0 → K (some (vI (-1))) h2) ∧ (¬ (n3 = 0) → K (some (vI x3)) h2))))) ∧ (¬ (n1 ≤ x4) → in32 (10 * x3) ∧ wpCV h (some x0) 4 (fun b10 => Vm d m_X5_byteAt [vR (some b10), vI x4] h (kI (fun n6 h5 => in32 ((10 * x3) + n6) ∧ in32 (((10 * x3) + n6) - 48) ∧ in32 (x4 + 1) ∧ Vx (d + 1) m_X5_number bc bs 31 [some (vR (some x0)), some (vI x1), some (vI x2), some (vI (((10 * x3) + n6) - 48)), some (vI (x4 + 1))] [] h5 K))))))) : Vx (d + 1) m_X5_number bc bs 31 [some (vR (some x0)), some (vI x1), some (vI x2), some (vI x3), some (vI x4)] [] h K := by
  refine rr_iload dX5_number_31 rfl rfl ?_
  refine rr_aload_n dX5_number_33 rfl rfl ?_
  refine rr_getI cf_X5 (j := 4) (by decide) dX5_number_34 rfl q_87 hh (fun n1 hh => ?_)
  refine rr_icmp_ge (tgt := 61) dX5_number_37 rfl (by decide) (fun hc37 => ?_) (fun hc37 => ?_)
  · have hh := hh.1 hc37
    refine rr_iload_n dX5_number_61 rfl rfl ?_
    refine rr_iload_n dX5_number_62 rfl rfl ?_
    refine rr_iload_n dX5_number_63 rfl rfl ?_
    refine rr_callSN (bc' := bc) (bs' := bs) (av := [vI x3, vI x1, vI x2]) (st := []) mf_X9_within dX5_number_64 rfl qn_5 q_197 rfl (by decide) (Nat.le_refl _) (Nat.le_refl _) hh (rr_kI fun n3 h2 hh => ?_)
    refine rr_if_eq (tgt := 74) dX5_number_67 rfl (by decide) (fun hc67 => ?_) (fun hc67 => ?_)
    · have hh := hh.1 hc67
      refine rr_iconst dX5_number_74 rfl ⟨by decide, by decide⟩ ?_
      exact rr_iret dX5_number_75 rfl hh
    · have hh := hh.2 hc67
      refine rr_iload_n dX5_number_70 rfl rfl ?_
      refine rr_goto (pc' := 75) dX5_number_71 (by decide) ?_
      exact rr_iret dX5_number_75 rfl hh
  · have hh := hh.2 hc37
    refine rr_bipush dX5_number_40 rfl ⟨by decide, by decide⟩ rfl ?_
    refine rr_iload_n dX5_number_42 rfl rfl ?_
    obtain ⟨hz4, hh⟩ := hh
    refine rr_imul dX5_number_43 rfl hz4 ?_
    refine rr_aload_n dX5_number_44 rfl rfl ?_
    refine rr_iload dX5_number_45 rfl rfl ?_
    refine rr_callW (bc' := bc) (bs' := bs) (q := (some x0)) (av := [vI x4]) (st := [vI (10 * x3)]) mf_X5_byteAt dX5_number_47 rfl q_235 q_237 qs_1 ⟨_, _, rfl⟩ rfl (show 1 ≤ 8 by decide) (Nat.le_refl _) (Nat.le_refl _) hh (rr_kI fun n6 h5 hh => ?_)
    obtain ⟨hz7, hh⟩ := hh
    refine rr_iadd dX5_number_50 rfl hz7 ?_
    refine rr_bipush dX5_number_51 rfl ⟨by decide, by decide⟩ rfl ?_
    obtain ⟨hz8, hh⟩ := hh
    refine rr_isub dX5_number_53 rfl hz8 ?_
    refine rr_istore_n (ls' := [some (vR (some x0)), some (vI x1), some (vI x2), some (vI (((10 * x3) + n6) - 48)), some (vI x4)]) dX5_number_54 rfl (by decide) (fun _ z => by cases z) rfl ?_
    obtain ⟨hz9, hh⟩ := hh
    refine rr_iinc (ls' := [some (vR (some x0)), some (vI x1), some (vI x2), some (vI (((10 * x3) + n6) - 48)), some (vI (x4 + 1))]) dX5_number_55 rfl rfl (by decide) (fun _ z => by cases z) hz9 rfl ?_
    refine rr_goto (pc' := 31) dX5_number_58 (by decide) ?_
    exact hh
theorem dX5_letter_0 : decode cX5_letter 0 = .ok (.aload_n 0, 1) := by decide +kernel
theorem dX5_letter_1 : decode cX5_letter 1 = .ok (.getfield 28, 3) := by decide +kernel
theorem dX5_letter_4 : decode cX5_letter 4 = .ok (.iconst 1, 1) := by decide +kernel
theorem dX5_letter_5 : decode cX5_letter 5 = .ok (.if_icmp .ne 30, 3) := by decide +kernel
theorem dX5_letter_8 : decode cX5_letter 8 = .ok (.aload_n 0, 1) := by decide +kernel
theorem dX5_letter_9 : decode cX5_letter 9 = .ok (.getfield 25, 3) := by decide +kernel
theorem dX5_letter_12 : decode cX5_letter 12 = .ok (.aload_n 0, 1) := by decide +kernel
theorem dX5_letter_13 : decode cX5_letter 13 = .ok (.getfield 22, 3) := by decide +kernel
theorem dX5_letter_16 : decode cX5_letter 16 = .ok (.isub, 1) := by decide +kernel
theorem dX5_letter_17 : decode cX5_letter 17 = .ok (.iconst 1, 1) := by decide +kernel
theorem dX5_letter_18 : decode cX5_letter 18 = .ok (.if_icmp .ne 17, 3) := by decide +kernel
theorem dX5_letter_21 : decode cX5_letter 21 = .ok (.aload_n 0, 1) := by decide +kernel
theorem dX5_letter_22 : decode cX5_letter 22 = .ok (.aload_n 0, 1) := by decide +kernel
theorem dX5_letter_23 : decode cX5_letter 23 = .ok (.getfield 22, 3) := by decide +kernel
theorem dX5_letter_26 : decode cX5_letter 26 = .ok (.invokevirtual 129, 3) := by decide +kernel
theorem dX5_letter_29 : decode cX5_letter 29 = .ok (.bipush 97, 2) := by decide +kernel
theorem dX5_letter_31 : decode cX5_letter 31 = .ok (.isub, 1) := by decide +kernel
theorem dX5_letter_32 : decode cX5_letter 32 = .ok (.goto 4, 3) := by decide +kernel
theorem dX5_letter_35 : decode cX5_letter 35 = .ok (.iconst (-1), 1) := by decide +kernel
theorem dX5_letter_36 : decode cX5_letter 36 = .ok (.ireturn, 1) := by decide +kernel
set_option maxRecDepth 100000 in
theorem B_X5_letter_0 {d : Nat} {h : AbH} {K : Option AbV → AbH → Prop} {x0 : Nat} (hh : wpGI h (some x0) 4 5 (fun n1 => ((n1 ≠ 1 → K (some (vI (-1))) h) ∧ (¬ (n1 ≠ 1) → wpGI h (some x0) 4 4 (fun n2 => wpGI h (some x0) 4 3 (fun n3 => in32 (n2 - n3) ∧ (((n2 - n3) ≠ 1 → K (some (vI (-1))) h) ∧ (¬ ((n2 - n3) ≠ 1) → wpGI h (some x0) 4 3 (fun n5 => wpCV h (some x0) 4 (fun b9 => Vm d m_X5_byteAt [vR (some b9), vI n5] h (kI (fun n7 h6 => in32 (n7 - 97) ∧ K (some (vI (n7 - 97))) h6)))))))))))) : Vx (d + 1) m_X5_letter 0 0 0 [some (vR (some x0))] [] h K := by
  refine rr_aload_n dX5_letter_0 rfl rfl ?_
  refine rr_getI cf_X5 (j := 5) (by decide) dX5_letter_1 rfl q_88 hh (fun n1 hh => ?_)
  refine rr_iconst dX5_letter_4 rfl ⟨by decide, by decide⟩ ?_
  refine rr_icmp_ne (tgt := 35) dX5_letter_5 rfl (by decide) (fun hc5 => ?_) (fun hc5 => ?_)
  · have hh := hh.1 hc5
    refine rr_iconst dX5_letter_35 rfl ⟨by decide, by decide⟩ ?_
    exact rr_iret dX5_letter_36 rfl hh
  · have hh := hh.2 hc5
    refine rr_aload_n dX5_letter_8 rfl rfl ?_
    refine rr_getI cf_X5 (j := 4) (by decide) dX5_letter_9 rfl q_87 hh (fun n2 hh => ?_)
    refine rr_aload_n dX5_letter_12 rfl rfl ?_
    refine rr_getI cf_X5 (j := 3) (by decide) dX5_letter_13 rfl q_86 hh (fun n3 hh => ?_)
    obtain ⟨hz4, hh⟩ := hh
    refine rr_isub dX5_letter_16 rfl hz4 ?_
    refine rr_iconst dX5_letter_17 rfl ⟨by decide, by decide⟩ ?_
    refine rr_icmp_ne (tgt := 35) dX5_letter_18 rfl (by decide) (fun hc18 => ?_) (fun hc18 => ?_)
    · have hh := hh.1 hc18
      refine rr_iconst dX5_letter_35 rfl ⟨by decide, by decide⟩ ?_
      exact rr_iret dX5_letter_36 rfl hh
    · have hh := hh.2 hc18
      refine rr_aload_n dX5_letter_21 rfl rfl ?_
      refine rr_aload_n dX5_letter_22 rfl rfl ?_
      refine rr_getI cf_X5 (j := 3) (by decide) dX5_letter_23 rfl q_86 hh (fun n5 hh => ?_)
      refine rr_callW (bc' := 0) (bs' := 0) (q := (some x0)) (av := [vI n5]) (st := []) mf_X5_byteAt dX5_letter_26 rfl q_235 q_237 qs_1 ⟨_, _, rfl⟩ rfl (by decide) (Nat.le_refl _) (Nat.le_refl _) hh (rr_kI fun n7 h6 hh => ?_)
      refine rr_bipush dX5_letter_29 rfl ⟨by decide, by decide⟩ rfl ?_
      obtain ⟨hz8, hh⟩ := hh
      refine rr_isub dX5_letter_31 rfl hz8 ?_
      refine rr_goto (pc' := 36) dX5_letter_32 (by decide) ?_
      exact rr_iret dX5_letter_36 rfl hh
theorem dX5_form_0 : decode cX5_form 0 = .ok (.aload_n 0, 1) := by decide +kernel
theorem dX5_form_1 : decode cX5_form 1 = .ok (.getfield 28, 3) := by decide +kernel
theorem dX5_form_4 : decode cX5_form 4 = .ok (.iconst 1, 1) := by decide +kernel
theorem dX5_form_5 : decode cX5_form 5 = .ok (.if_icmp .ne 16, 3) := by decide +kernel
theorem dX5_form_8 : decode cX5_form 8 = .ok (.aload_n 0, 1) := by decide +kernel
theorem dX5_form_9 : decode cX5_form 9 = .ok (.getfield 25, 3) := by decide +kernel
theorem dX5_form_12 : decode cX5_form 12 = .ok (.aload_n 0, 1) := by decide +kernel
theorem dX5_form_13 : decode cX5_form 13 = .ok (.getfield 22, 3) := by decide +kernel
theorem dX5_form_16 : decode cX5_form 16 = .ok (.isub, 1) := by decide +kernel
theorem dX5_form_17 : decode cX5_form 17 = .ok (.iload_n 1, 1) := by decide +kernel
theorem dX5_form_18 : decode cX5_form 18 = .ok (.if_icmp .le 7, 3) := by decide +kernel
theorem dX5_form_21 : decode cX5_form 21 = .ok (.ldc2_w 115, 3) := by decide +kernel
theorem dX5_form_24 : decode cX5_form 24 = .ok (.lreturn, 1) := by decide +kernel
theorem dX5_form_25 : decode cX5_form 25 = .ok (.lconst 0, 1) := by decide +kernel
theorem dX5_form_26 : decode cX5_form 26 = .ok (.lstore_n 2, 1) := by decide +kernel
theorem dX5_form_27 : decode cX5_form 27 = .ok (.aload_n 0, 1) := by decide +kernel
theorem dX5_form_28 : decode cX5_form 28 = .ok (.getfield 22, 3) := by decide +kernel
theorem dX5_form_31 : decode cX5_form 31 = .ok (.istore 4, 2) := by decide +kernel
theorem dX5_form_33 : decode cX5_form 33 = .ok (.iload 4, 2) := by decide +kernel
theorem dX5_form_35 : decode cX5_form 35 = .ok (.aload_n 0, 1) := by decide +kernel
theorem dX5_form_36 : decode cX5_form 36 = .ok (.getfield 25, 3) := by decide +kernel
theorem dX5_form_39 : decode cX5_form 39 = .ok (.if_icmp .ge 30, 3) := by decide +kernel
theorem dX5_form_42 : decode cX5_form 42 = .ok (.lload_n 2, 1) := by decide +kernel
theorem dX5_form_43 : decode cX5_form 43 = .ok (.iload 4, 2) := by decide +kernel
theorem dX5_form_45 : decode cX5_form 45 = .ok (.aload_n 0, 1) := by decide +kernel
theorem dX5_form_46 : decode cX5_form 46 = .ok (.getfield 22, 3) := by decide +kernel
theorem dX5_form_49 : decode cX5_form 49 = .ok (.isub, 1) := by decide +kernel
theorem dX5_form_50 : decode cX5_form 50 = .ok (.aload_n 0, 1) := by decide +kernel
theorem dX5_form_51 : decode cX5_form 51 = .ok (.iload 4, 2) := by decide +kernel
theorem dX5_form_53 : decode cX5_form 53 = .ok (.invokevirtual 129, 3) := by decide +kernel
theorem dX5_form_56 : decode cX5_form 56 = .ok (.bipush 97, 2) := by decide +kernel
theorem dX5_form_58 : decode cX5_form 58 = .ok (.isub, 1) := by decide +kernel
theorem dX5_form_59 : decode cX5_form 59 = .ok (.invokestatic 133, 3) := by decide +kernel
theorem dX5_form_62 : decode cX5_form 62 = .ok (.lstore_n 2, 1) := by decide +kernel
theorem dX5_form_63 : decode cX5_form 63 = .ok (.iinc 4 1, 3) := by decide +kernel
theorem dX5_form_66 : decode cX5_form 66 = .ok (.goto (-33), 3) := by decide +kernel
theorem dX5_form_69 : decode cX5_form 69 = .ok (.lload_n 2, 1) := by decide +kernel
theorem dX5_form_70 : decode cX5_form 70 = .ok (.lreturn, 1) := by decide +kernel
set_option maxRecDepth 100000 in
theorem B_X5_form_0 {d : Nat} {h : AbH} {K : Option AbV → AbH → Prop} {x0 : Nat} {x1 : Int} (hh : wpGI h (some x0) 4 5 (fun n1 => ((n1 ≠ 1 → K (some (vL (-1))) h) ∧ (¬ (n1 ≠ 1) → wpGI h (some x0) 4 4 (fun n2 => wpGI h (some x0) 4 3 (fun n3 => in32 (n2 - n3) ∧ (((n2 - n3) ≤ x1 → wpGI h (some x0) 4 3 (fun n5 => Vx (d + 1) m_X5_form 0 0 33 [some (vR (some x0)), some (vI x1), some (vL 0), none, some (vI n5)] [] h K)) ∧ (¬ ((n2 - n3) ≤ x1) → K (some (vL (-1))) h)))))))) : Vx (d + 1) m_X5_form 0 0 0 [some (vR (some x0)), some (vI x1)] [] h K := by
  refine Vx.pad 3 [some (vR (some x0)), some (vI x1), none, none, none] rfl ?_
  refine rr_aload_n dX5_form_0 rfl rfl ?_
  refine rr_getI cf_X5 (j := 5) (by decide) dX5_form_1 rfl q_88 hh (fun n1 hh => ?_)
  refine rr_iconst dX5_form_4 rfl ⟨by decide, by decide⟩ ?_
  refine rr_icmp_ne (tgt := 21) dX5_form_5 rfl (by decide) (fun hc5 => ?_) (fun hc5 => ?_)
  · have hh := hh.1 hc5
    refine rr_ldc2 (n := -1) dX5_form_21 rfl q_396 (by decide) ⟨by decide, by decide⟩ ?_
    exact rr_lret dX5_form_24 rfl hh
  · have hh := hh.2 hc5
    refine rr_aload_n dX5_form_8 rfl rfl ?_
    refine rr_getI cf_X5 (j := 4) (by decide) dX5_form_9 rfl q_87 hh (fun n2 hh => ?_)
    refine rr_aload_n dX5_form_12 rfl rfl ?_
    refine rr_getI cf_X5 (j := 3) (by decide) dX5_form_13 rfl q_86 hh (fun n3 hh => ?_)
    obtain ⟨hz4, hh⟩ := hh
    refine rr_isub dX5_form_16 rfl hz4 ?_
    refine rr_iload_n dX5_form_17 rfl rfl ?_
    refine rr_icmp_le (tgt := 25) dX5_form_18 rfl (by decide) (fun hc18 => ?_) (fun hc18 => ?_)
    · have hh := hh.1 hc18
      refine rr_lconst (n := 0) dX5_form_25 rfl ⟨by decide, by decide⟩ rfl ?_
      refine rr_lstore_n (ls' := [some (vR (some x0)), some (vI x1), some (vL 0), none, none]) dX5_form_26 rfl (by decide) (fun _ z => by cases z) rfl ?_
      refine rr_aload_n dX5_form_27 rfl rfl ?_
      refine rr_getI cf_X5 (j := 3) (by decide) dX5_form_28 rfl q_86 hh (fun n5 hh => ?_)
      refine rr_istore (ls' := [some (vR (some x0)), some (vI x1), some (vL 0), none, some (vI n5)]) dX5_form_31 rfl (by decide) (fun _ z => by cases z) rfl ?_
      exact hh
    · have hh := hh.2 hc18
      refine rr_ldc2 (n := -1) dX5_form_21 rfl q_396 (by decide) ⟨by decide, by decide⟩ ?_
      exact rr_lret dX5_form_24 rfl hh
set_option maxRecDepth 100000 in
theorem B_X5_form_33 {d : Nat} {h : AbH} {K : Option AbV → AbH → Prop} {x0 : Nat} {x1 : Int} {x2 : Int} {x4 : Int} {bc bs : Nat} (hh : wpGI h (some x0) 4 4 (fun n1 => ((n1 ≤ x4 → K (some (vL x2)) h) ∧ (¬ (n1 ≤ x4) → wpGI h (some x0) 4 3 (fun n2 => in32 (x4 - n2) ∧ wpCV h (some x0) 4 (fun b10 => Vm d m_X5_byteAt [vR (some b10), vI x4] h (kI (fun n5 h4 => in32 (n5 - 97) ∧ Vm d m_X0_longer [vL x2, vI (x4 - n2), vI (n5 - 97)] h4 (kL (fun n8 h7 => in32 (x4 + 1) ∧ Vx (d + 1) m_X5_form bc bs 33 [some (vR (some x0)), some (vI x1), some (vL n8), none, some (vI (x4 + 1))] [] h7 K)))))))))) : Vx (d + 1) m_X5_form bc bs 33 [some (vR (some x0)), some (vI x1), some (vL x2), none, some (vI x4)] [] h K := by
  refine rr_iload dX5_form_33 rfl rfl ?_
  refine rr_aload_n dX5_form_35 rfl rfl ?_
  refine rr_getI cf_X5 (j := 4) (by decide) dX5_form_36 rfl q_87 hh (fun n1 hh => ?_)
  refine rr_icmp_ge (tgt := 69) dX5_form_39 rfl (by decide) (fun hc39 => ?_) (fun hc39 => ?_)
  · have hh := hh.1 hc39
    refine rr_lload_n dX5_form_69 rfl rfl ?_
    exact rr_lret dX5_form_70 rfl hh
  · have hh := hh.2 hc39
    refine rr_lload_n dX5_form_42 rfl rfl ?_
    refine rr_iload dX5_form_43 rfl rfl ?_
    refine rr_aload_n dX5_form_45 rfl rfl ?_
    refine rr_getI cf_X5 (j := 3) (by decide) dX5_form_46 rfl q_86 hh (fun n2 hh => ?_)
    obtain ⟨hz3, hh⟩ := hh
    refine rr_isub dX5_form_49 rfl hz3 ?_
    refine rr_aload_n dX5_form_50 rfl rfl ?_
    refine rr_iload dX5_form_51 rfl rfl ?_
    refine rr_callW (bc' := bc) (bs' := bs) (q := (some x0)) (av := [vI x4]) (st := [vI (x4 - n2), vL x2]) mf_X5_byteAt dX5_form_53 rfl q_235 q_237 qs_1 ⟨_, _, rfl⟩ rfl (show 3 ≤ 8 by decide) (Nat.le_refl _) (Nat.le_refl _) hh (rr_kI fun n5 h4 hh => ?_)
    refine rr_bipush dX5_form_56 rfl ⟨by decide, by decide⟩ rfl ?_
    obtain ⟨hz6, hh⟩ := hh
    refine rr_isub dX5_form_58 rfl hz6 ?_
    refine rr_callS (bc' := bc) (bs' := bs) (av := [vL x2, vI (x4 - n2), vI (n5 - 97)]) (st := []) mf_X0_longer dX5_form_59 rfl q_397 q_398 rfl (by decide) (Nat.le_refl _) (Nat.le_refl _) hh (rr_kL fun n8 h7 hh => ?_)
    refine rr_lstore_n (ls' := [some (vR (some x0)), some (vI x1), some (vL n8), none, some (vI x4)]) dX5_form_62 rfl (by decide) (fun _ z => by cases z) rfl ?_
    obtain ⟨hz9, hh⟩ := hh
    refine rr_iinc (ls' := [some (vR (some x0)), some (vI x1), some (vL n8), none, some (vI (x4 + 1))]) dX5_form_63 rfl rfl (by decide) (fun _ z => by cases z) hz9 rfl ?_
    refine rr_goto (pc' := 33) dX5_form_66 (by decide) ?_
    exact hh
theorem dX5_environment_0 : decode cX5_environment 0 = .ok (.aload_n 0, 1) := by decide +kernel
theorem dX5_environment_1 : decode cX5_environment 1 = .ok (.bipush 46, 2) := by decide +kernel
theorem dX5_environment_3 : decode cX5_environment 3 = .ok (.invokevirtual 42, 3) := by decide +kernel
theorem dX5_environment_6 : decode cX5_environment 6 = .ok (.ifCond .eq 5, 3) := by decide +kernel
theorem dX5_environment_9 : decode cX5_environment 9 = .ok (.iconst 0, 1) := by decide +kernel
theorem dX5_environment_10 : decode cX5_environment 10 = .ok (.ireturn, 1) := by decide +kernel
theorem dX5_environment_11 : decode cX5_environment 11 = .ok (.aload_n 0, 1) := by decide +kernel
theorem dX5_environment_12 : decode cX5_environment 12 = .ok (.bipush 62, 2) := by decide +kernel
theorem dX5_environment_14 : decode cX5_environment 14 = .ok (.invokevirtual 42, 3) := by decide +kernel
theorem dX5_environment_17 : decode cX5_environment 17 = .ok (.ifCond .eq 5, 3) := by decide +kernel
theorem dX5_environment_20 : decode cX5_environment 20 = .ok (.iconst 1, 1) := by decide +kernel
theorem dX5_environment_21 : decode cX5_environment 21 = .ok (.ireturn, 1) := by decide +kernel
theorem dX5_environment_22 : decode cX5_environment 22 = .ok (.aload_n 0, 1) := by decide +kernel
theorem dX5_environment_23 : decode cX5_environment 23 = .ok (.bipush 60, 2) := by decide +kernel
theorem dX5_environment_25 : decode cX5_environment 25 = .ok (.invokevirtual 42, 3) := by decide +kernel
theorem dX5_environment_28 : decode cX5_environment 28 = .ok (.ifCond .eq 7, 3) := by decide +kernel
theorem dX5_environment_31 : decode cX5_environment 31 = .ok (.iconst 2, 1) := by decide +kernel
theorem dX5_environment_32 : decode cX5_environment 32 = .ok (.goto 4, 3) := by decide +kernel
theorem dX5_environment_35 : decode cX5_environment 35 = .ok (.iconst (-1), 1) := by decide +kernel
theorem dX5_environment_36 : decode cX5_environment 36 = .ok (.ireturn, 1) := by decide +kernel
set_option maxRecDepth 100000 in
theorem B_X5_environment_0 {d : Nat} {h : AbH} {K : Option AbV → AbH → Prop} {x0 : Nat} (hh : wpCV h (some x0) 4 (fun b9 => Vm d m_X5_isSign [vR (some b9), vI 46] h (kI (fun n2 h1 => ((n2 = 0 → wpCV h1 (some x0) 4 (fun b8 => Vm d m_X5_isSign [vR (some b8), vI 62] h1 (kI (fun n4 h3 => ((n4 = 0 → wpCV h3 (some x0) 4 (fun b7 => Vm d m_X5_isSign [vR (some b7), vI 60] h3 (kI (fun n6 h5 => ((n6 = 0 → K (some (vI (-1))) h5) ∧ (¬ (n6 = 0) → K (some (vI 2)) h5)))))) ∧ (¬ (n4 = 0) → K (some (vI 1)) h3)))))) ∧ (¬ (n2 = 0) → K (some (vI 0)) h1)))))) : Vx (d + 1) m_X5_environment 0 0 0 [some (vR (some x0))] [] h K := by
  refine rr_aload_n dX5_environment_0 rfl rfl ?_
  refine rr_bipush dX5_environment_1 rfl ⟨by decide, by decide⟩ rfl ?_
  refine rr_callW (bc' := 0) (bs' := 0) (q := (some x0)) (av := [vI 46]) (st := []) mf_X5_isSign dX5_environment_3 rfl q_318 q_320 qs_7 ⟨_, _, rfl⟩ rfl (by decide) (Nat.le_refl _) (Nat.le_refl _) hh (rr_kI fun n2 h1 hh => ?_)
  refine rr_if_eq (tgt := 11) dX5_environment_6 rfl (by decide) (fun hc6 => ?_) (fun hc6 => ?_)
  · have hh := hh.1 hc6
    refine rr_aload_n dX5_environment_11 rfl rfl ?_
    refine rr_bipush dX5_environment_12 rfl ⟨by decide, by decide⟩ rfl ?_
    refine rr_callW (bc' := 0) (bs' := 0) (q := (some x0)) (av := [vI 62]) (st := []) mf_X5_isSign dX5_environment_14 rfl q_318 q_320 qs_7 ⟨_, _, rfl⟩ rfl (by decide) (Nat.le_refl _) (Nat.le_refl _) hh (rr_kI fun n4 h3 hh => ?_)
    refine rr_if_eq (tgt := 22) dX5_environment_17 rfl (by decide) (fun hc17 => ?_) (fun hc17 => ?_)
    · have hh := hh.1 hc17
      refine rr_aload_n dX5_environment_22 rfl rfl ?_
      refine rr_bipush dX5_environment_23 rfl ⟨by decide, by decide⟩ rfl ?_
      refine rr_callW (bc' := 0) (bs' := 0) (q := (some x0)) (av := [vI 60]) (st := []) mf_X5_isSign dX5_environment_25 rfl q_318 q_320 qs_7 ⟨_, _, rfl⟩ rfl (by decide) (Nat.le_refl _) (Nat.le_refl _) hh (rr_kI fun n6 h5 hh => ?_)
      refine rr_if_eq (tgt := 35) dX5_environment_28 rfl (by decide) (fun hc28 => ?_) (fun hc28 => ?_)
      · have hh := hh.1 hc28
        refine rr_iconst dX5_environment_35 rfl ⟨by decide, by decide⟩ ?_
        exact rr_iret dX5_environment_36 rfl hh
      · have hh := hh.2 hc28
        refine rr_iconst dX5_environment_31 rfl ⟨by decide, by decide⟩ ?_
        refine rr_goto (pc' := 36) dX5_environment_32 (by decide) ?_
        exact rr_iret dX5_environment_36 rfl hh
    · have hh := hh.2 hc17
      refine rr_iconst dX5_environment_20 rfl ⟨by decide, by decide⟩ ?_
      exact rr_iret dX5_environment_21 rfl hh
  · have hh := hh.2 hc6
    refine rr_iconst dX5_environment_9 rfl ⟨by decide, by decide⟩ ?_
    exact rr_iret dX5_environment_10 rfl hh
theorem dX5_isSign_0 : decode cX5_isSign 0 = .ok (.aload_n 0, 1) := by decide +kernel
theorem dX5_isSign_1 : decode cX5_isSign 1 = .ok (.aload_n 0, 1) := by decide +kernel
theorem dX5_isSign_2 : decode cX5_isSign 2 = .ok (.getfield 22, 3) := by decide +kernel
theorem dX5_isSign_5 : decode cX5_isSign 5 = .ok (.invokevirtual 129, 3) := by decide +kernel
theorem dX5_isSign_8 : decode cX5_isSign 8 = .ok (.iload_n 1, 1) := by decide +kernel
theorem dX5_isSign_9 : decode cX5_isSign 9 = .ok (.if_icmp .ne 7, 3) := by decide +kernel
theorem dX5_isSign_12 : decode cX5_isSign 12 = .ok (.iconst 1, 1) := by decide +kernel
theorem dX5_isSign_13 : decode cX5_isSign 13 = .ok (.goto 4, 3) := by decide +kernel
theorem dX5_isSign_16 : decode cX5_isSign 16 = .ok (.iconst 0, 1) := by decide +kernel
theorem dX5_isSign_17 : decode cX5_isSign 17 = .ok (.ireturn, 1) := by decide +kernel
set_option maxRecDepth 100000 in
theorem B_X5_isSign_0 {d : Nat} {h : AbH} {K : Option AbV → AbH → Prop} {x0 : Nat} {x1 : Int} (hh : wpGI h (some x0) 4 3 (fun n1 => wpCV h (some x0) 4 (fun b4 => Vm d m_X5_byteAt [vR (some b4), vI n1] h (kI (fun n3 h2 => ((n3 ≠ x1 → K (some (vI 0)) h2) ∧ (¬ (n3 ≠ x1) → K (some (vI 1)) h2))))))) : Vx (d + 1) m_X5_isSign 0 0 0 [some (vR (some x0)), some (vI x1)] [] h K := by
  refine rr_aload_n dX5_isSign_0 rfl rfl ?_
  refine rr_aload_n dX5_isSign_1 rfl rfl ?_
  refine rr_getI cf_X5 (j := 3) (by decide) dX5_isSign_2 rfl q_86 hh (fun n1 hh => ?_)
  refine rr_callW (bc' := 0) (bs' := 0) (q := (some x0)) (av := [vI n1]) (st := []) mf_X5_byteAt dX5_isSign_5 rfl q_235 q_237 qs_1 ⟨_, _, rfl⟩ rfl (by decide) (Nat.le_refl _) (Nat.le_refl _) hh (rr_kI fun n3 h2 hh => ?_)
  refine rr_iload_n dX5_isSign_8 rfl rfl ?_
  refine rr_icmp_ne (tgt := 16) dX5_isSign_9 rfl (by decide) (fun hc9 => ?_) (fun hc9 => ?_)
  · have hh := hh.1 hc9
    refine rr_iconst dX5_isSign_16 rfl ⟨by decide, by decide⟩ ?_
    exact rr_zret dX5_isSign_17 rfl rfl hh
  · have hh := hh.2 hc9
    refine rr_iconst dX5_isSign_12 rfl ⟨by decide, by decide⟩ ?_
    refine rr_goto (pc' := 17) dX5_isSign_13 (by decide) ?_
    exact rr_zret dX5_isSign_17 rfl rfl hh
theorem dX5_isWord_0 : decode cX5_isWord 0 = .ok (.aload_n 0, 1) := by decide +kernel
theorem dX5_isWord_1 : decode cX5_isWord 1 = .ok (.getfield 25, 3) := by decide +kernel
theorem dX5_isWord_4 : decode cX5_isWord 4 = .ok (.aload_n 0, 1) := by decide +kernel
theorem dX5_isWord_5 : decode cX5_isWord 5 = .ok (.getfield 22, 3) := by decide +kernel
theorem dX5_isWord_8 : decode cX5_isWord 8 = .ok (.isub, 1) := by decide +kernel
theorem dX5_isWord_9 : decode cX5_isWord 9 = .ok (.aload_n 1, 1) := by decide +kernel
theorem dX5_isWord_10 : decode cX5_isWord 10 = .ok (.invokevirtual 137, 3) := by decide +kernel
theorem dX5_isWord_13 : decode cX5_isWord 13 = .ok (.if_icmp .eq 5, 3) := by decide +kernel
theorem dX5_isWord_16 : decode cX5_isWord 16 = .ok (.iconst 0, 1) := by decide +kernel
theorem dX5_isWord_17 : decode cX5_isWord 17 = .ok (.ireturn, 1) := by decide +kernel
theorem dX5_isWord_18 : decode cX5_isWord 18 = .ok (.iconst 0, 1) := by decide +kernel
theorem dX5_isWord_19 : decode cX5_isWord 19 = .ok (.istore_n 2, 1) := by decide +kernel
theorem dX5_isWord_20 : decode cX5_isWord 20 = .ok (.iload_n 2, 1) := by decide +kernel
theorem dX5_isWord_21 : decode cX5_isWord 21 = .ok (.aload_n 1, 1) := by decide +kernel
theorem dX5_isWord_22 : decode cX5_isWord 22 = .ok (.invokevirtual 137, 3) := by decide +kernel
theorem dX5_isWord_25 : decode cX5_isWord 25 = .ok (.if_icmp .ge 29, 3) := by decide +kernel
theorem dX5_isWord_28 : decode cX5_isWord 28 = .ok (.aload_n 0, 1) := by decide +kernel
theorem dX5_isWord_29 : decode cX5_isWord 29 = .ok (.aload_n 0, 1) := by decide +kernel
theorem dX5_isWord_30 : decode cX5_isWord 30 = .ok (.getfield 22, 3) := by decide +kernel
theorem dX5_isWord_33 : decode cX5_isWord 33 = .ok (.iload_n 2, 1) := by decide +kernel
theorem dX5_isWord_34 : decode cX5_isWord 34 = .ok (.iadd, 1) := by decide +kernel
theorem dX5_isWord_35 : decode cX5_isWord 35 = .ok (.invokevirtual 129, 3) := by decide +kernel
theorem dX5_isWord_38 : decode cX5_isWord 38 = .ok (.aload_n 1, 1) := by decide +kernel
theorem dX5_isWord_39 : decode cX5_isWord 39 = .ok (.iload_n 2, 1) := by decide +kernel
theorem dX5_isWord_40 : decode cX5_isWord 40 = .ok (.invokevirtual 141, 3) := by decide +kernel
theorem dX5_isWord_43 : decode cX5_isWord 43 = .ok (.if_icmp .eq 5, 3) := by decide +kernel
theorem dX5_isWord_46 : decode cX5_isWord 46 = .ok (.iconst 0, 1) := by decide +kernel
theorem dX5_isWord_47 : decode cX5_isWord 47 = .ok (.ireturn, 1) := by decide +kernel
theorem dX5_isWord_48 : decode cX5_isWord 48 = .ok (.iinc 2 1, 3) := by decide +kernel
theorem dX5_isWord_51 : decode cX5_isWord 51 = .ok (.goto (-31), 3) := by decide +kernel
theorem dX5_isWord_54 : decode cX5_isWord 54 = .ok (.iconst 1, 1) := by decide +kernel
theorem dX5_isWord_55 : decode cX5_isWord 55 = .ok (.ireturn, 1) := by decide +kernel
set_option maxRecDepth 100000 in
theorem B_X5_isWord_0 {d : Nat} {h : AbH} {K : Option AbV → AbH → Prop} {x0 : Nat} {x1 : Option Nat} (hh : wpGI h (some x0) 4 4 (fun n1 => wpGI h (some x0) 4 3 (fun n2 => in32 (n1 - n2) ∧ wpCT h x1 (fun b6 => Vm d m_J0_length_8abf5 [vR (some b6)] h (kI (fun n5 h4 => (((n1 - n2) = n5 → Vx (d + 1) m_X5_isWord 0 0 20 [some (vR (some x0)), some (vR x1), some (vI 0)] [] h4 K) ∧ (¬ ((n1 - n2) = n5) → K (some (vI 0)) h4)))))))) : Vx (d + 1) m_X5_isWord 0 0 0 [some (vR (some x0)), some (vR x1)] [] h K := by
  refine Vx.pad 1 [some (vR (some x0)), some (vR x1), none] rfl ?_
  refine rr_aload_n dX5_isWord_0 rfl rfl ?_
  refine rr_getI cf_X5 (j := 4) (by decide) dX5_isWord_1 rfl q_87 hh (fun n1 hh => ?_)
  refine rr_aload_n dX5_isWord_4 rfl rfl ?_
  refine rr_getI cf_X5 (j := 3) (by decide) dX5_isWord_5 rfl q_86 hh (fun n2 hh => ?_)
  obtain ⟨hz3, hh⟩ := hh
  refine rr_isub dX5_isWord_8 rfl hz3 ?_
  refine rr_aload_n dX5_isWord_9 rfl rfl ?_
  refine rr_callT (bc' := 0) (bs' := 0) (q := x1) (av := []) (st := [vI (n1 - n2)]) mf_J0_length_8abf5 dX5_isWord_10 rfl q_254 q_255 q_256 rfl rfl (show 1 ≤ 8 by decide) (Nat.le_refl _) (Nat.le_refl _) hh (rr_kI fun n5 h4 hh => ?_)
  refine rr_icmp_eq (tgt := 18) dX5_isWord_13 rfl (by decide) (fun hc13 => ?_) (fun hc13 => ?_)
  · have hh := hh.1 hc13
    refine rr_iconst dX5_isWord_18 rfl ⟨by decide, by decide⟩ ?_
    refine rr_istore_n (ls' := [some (vR (some x0)), some (vR x1), some (vI 0)]) dX5_isWord_19 rfl (by decide) (fun _ z => by cases z) rfl ?_
    exact hh
  · have hh := hh.2 hc13
    refine rr_iconst dX5_isWord_16 rfl ⟨by decide, by decide⟩ ?_
    exact rr_zret dX5_isWord_17 rfl rfl hh
set_option maxRecDepth 100000 in
theorem B_X5_isWord_20 {d : Nat} {h : AbH} {K : Option AbV → AbH → Prop} {x0 : Nat} {x1 : Option Nat} {x2 : Int} {bc bs : Nat} (hh : wpCT h x1 (fun b12 => Vm d m_J0_length_8abf5 [vR (some b12)] h (kI (fun n2 h1 => ((n2 ≤ x2 → K (some (vI 1)) h1) ∧ (¬ (n2 ≤ x2) → wpGI h1 (some x0) 4 3 (fun n3 => in32 (n3 + x2) ∧ wpCV h1 (some x0) 4 (fun b11 => Vm d m_X5_byteAt [vR (some b11), vI (n3 + x2)] h1 (kI (fun n6 h5 => wpCT h5 x1 (fun b10 => Vm d m_J0_charAt_5068e [vR (some b10), vI x2] h5 (kI (fun n8 h7 => ((n6 = n8 → in32 (x2 + 1) ∧ Vx (d + 1) m_X5_isWord bc bs 20 [some (vR (some x0)), some (vR x1), some (vI (x2 + 1))] [] h7 K) ∧ (¬ (n6 = n8) → K (some (vI 0)) h7))))))))))))))) : Vx (d + 1) m_X5_isWord bc bs 20 [some (vR (some x0)), some (vR x1), some (vI x2)] [] h K := by
  refine rr_iload_n dX5_isWord_20 rfl rfl ?_
  refine rr_aload_n dX5_isWord_21 rfl rfl ?_
  refine rr_callT (bc' := bc) (bs' := bs) (q := x1) (av := []) (st := [vI x2]) mf_J0_length_8abf5 dX5_isWord_22 rfl q_254 q_255 q_256 rfl rfl (show 1 ≤ 8 by decide) (Nat.le_refl _) (Nat.le_refl _) hh (rr_kI fun n2 h1 hh => ?_)
  refine rr_icmp_ge (tgt := 54) dX5_isWord_25 rfl (by decide) (fun hc25 => ?_) (fun hc25 => ?_)
  · have hh := hh.1 hc25
    refine rr_iconst dX5_isWord_54 rfl ⟨by decide, by decide⟩ ?_
    exact rr_zret dX5_isWord_55 rfl rfl hh
  · have hh := hh.2 hc25
    refine rr_aload_n dX5_isWord_28 rfl rfl ?_
    refine rr_aload_n dX5_isWord_29 rfl rfl ?_
    refine rr_getI cf_X5 (j := 3) (by decide) dX5_isWord_30 rfl q_86 hh (fun n3 hh => ?_)
    refine rr_iload_n dX5_isWord_33 rfl rfl ?_
    obtain ⟨hz4, hh⟩ := hh
    refine rr_iadd dX5_isWord_34 rfl hz4 ?_
    refine rr_callW (bc' := bc) (bs' := bs) (q := (some x0)) (av := [vI (n3 + x2)]) (st := []) mf_X5_byteAt dX5_isWord_35 rfl q_235 q_237 qs_1 ⟨_, _, rfl⟩ rfl (by decide) (Nat.le_refl _) (Nat.le_refl _) hh (rr_kI fun n6 h5 hh => ?_)
    refine rr_aload_n dX5_isWord_38 rfl rfl ?_
    refine rr_iload_n dX5_isWord_39 rfl rfl ?_
    refine rr_callT (bc' := bc) (bs' := bs) (q := x1) (av := [vI x2]) (st := [vI n6]) mf_J0_charAt_5068e dX5_isWord_40 rfl q_264 q_265 q_266 rfl rfl (show 1 ≤ 8 by decide) (Nat.le_refl _) (Nat.le_refl _) hh (rr_kI fun n8 h7 hh => ?_)
    refine rr_icmp_eq (tgt := 48) dX5_isWord_43 rfl (by decide) (fun hc43 => ?_) (fun hc43 => ?_)
    · have hh := hh.1 hc43
      obtain ⟨hz9, hh⟩ := hh
      refine rr_iinc (ls' := [some (vR (some x0)), some (vR x1), some (vI (x2 + 1))]) dX5_isWord_48 rfl rfl (by decide) (fun _ z => by cases z) hz9 rfl ?_
      refine rr_goto (pc' := 20) dX5_isWord_51 (by decide) ?_
      exact hh
    · have hh := hh.2 hc43
      refine rr_iconst dX5_isWord_46 rfl ⟨by decide, by decide⟩ ?_
      exact rr_zret dX5_isWord_47 rfl rfl hh
theorem dX5_advance_0 : decode cX5_advance 0 = .ok (.aload_n 0, 1) := by decide +kernel
theorem dX5_advance_1 : decode cX5_advance 1 = .ok (.aload_n 0, 1) := by decide +kernel
theorem dX5_advance_2 : decode cX5_advance 2 = .ok (.getfield 25, 3) := by decide +kernel
theorem dX5_advance_5 : decode cX5_advance 5 = .ok (.putfield 22, 3) := by decide +kernel
theorem dX5_advance_8 : decode cX5_advance 8 = .ok (.aload_n 0, 1) := by decide +kernel
theorem dX5_advance_9 : decode cX5_advance 9 = .ok (.getfield 22, 3) := by decide +kernel
theorem dX5_advance_12 : decode cX5_advance 12 = .ok (.aload_n 0, 1) := by decide +kernel
theorem dX5_advance_13 : decode cX5_advance 13 = .ok (.getfield 15, 3) := by decide +kernel
theorem dX5_advance_16 : decode cX5_advance 16 = .ok (.if_icmp .ge 29, 3) := by decide +kernel
theorem dX5_advance_19 : decode cX5_advance 19 = .ok (.aload_n 0, 1) := by decide +kernel
theorem dX5_advance_20 : decode cX5_advance 20 = .ok (.aload_n 0, 1) := by decide +kernel
theorem dX5_advance_21 : decode cX5_advance 21 = .ok (.getfield 22, 3) := by decide +kernel
theorem dX5_advance_24 : decode cX5_advance 24 = .ok (.invokevirtual 129, 3) := by decide +kernel
theorem dX5_advance_27 : decode cX5_advance 27 = .ok (.bipush 32, 2) := by decide +kernel
theorem dX5_advance_29 : decode cX5_advance 29 = .ok (.if_icmp .ne 16, 3) := by decide +kernel
theorem dX5_advance_32 : decode cX5_advance 32 = .ok (.aload_n 0, 1) := by decide +kernel
theorem dX5_advance_33 : decode cX5_advance 33 = .ok (.dup, 1) := by decide +kernel
theorem dX5_advance_34 : decode cX5_advance 34 = .ok (.getfield 22, 3) := by decide +kernel
theorem dX5_advance_37 : decode cX5_advance 37 = .ok (.iconst 1, 1) := by decide +kernel
theorem dX5_advance_38 : decode cX5_advance 38 = .ok (.iadd, 1) := by decide +kernel
theorem dX5_advance_39 : decode cX5_advance 39 = .ok (.putfield 22, 3) := by decide +kernel
theorem dX5_advance_42 : decode cX5_advance 42 = .ok (.goto (-34), 3) := by decide +kernel
theorem dX5_advance_45 : decode cX5_advance 45 = .ok (.aload_n 0, 1) := by decide +kernel
theorem dX5_advance_46 : decode cX5_advance 46 = .ok (.aload_n 0, 1) := by decide +kernel
theorem dX5_advance_47 : decode cX5_advance 47 = .ok (.getfield 22, 3) := by decide +kernel
theorem dX5_advance_50 : decode cX5_advance 50 = .ok (.iconst 1, 1) := by decide +kernel
theorem dX5_advance_51 : decode cX5_advance 51 = .ok (.iadd, 1) := by decide +kernel
theorem dX5_advance_52 : decode cX5_advance 52 = .ok (.aload_n 0, 1) := by decide +kernel
theorem dX5_advance_53 : decode cX5_advance 53 = .ok (.getfield 15, 3) := by decide +kernel
theorem dX5_advance_56 : decode cX5_advance 56 = .ok (.invokestatic 145, 3) := by decide +kernel
theorem dX5_advance_59 : decode cX5_advance 59 = .ok (.putfield 25, 3) := by decide +kernel
theorem dX5_advance_62 : decode cX5_advance 62 = .ok (.aload_n 0, 1) := by decide +kernel
theorem dX5_advance_63 : decode cX5_advance 63 = .ok (.aload_n 0, 1) := by decide +kernel
theorem dX5_advance_64 : decode cX5_advance 64 = .ok (.aload_n 0, 1) := by decide +kernel
theorem dX5_advance_65 : decode cX5_advance 65 = .ok (.getfield 22, 3) := by decide +kernel
theorem dX5_advance_68 : decode cX5_advance 68 = .ok (.invokevirtual 129, 3) := by decide +kernel
theorem dX5_advance_71 : decode cX5_advance 71 = .ok (.invokestatic 150, 3) := by decide +kernel
theorem dX5_advance_74 : decode cX5_advance 74 = .ok (.putfield 28, 3) := by decide +kernel
theorem dX5_advance_77 : decode cX5_advance 77 = .ok (.aload_n 0, 1) := by decide +kernel
theorem dX5_advance_78 : decode cX5_advance 78 = .ok (.getfield 28, 3) := by decide +kernel
theorem dX5_advance_81 : decode cX5_advance 81 = .ok (.ifCond .eq 45, 3) := by decide +kernel
theorem dX5_advance_84 : decode cX5_advance 84 = .ok (.aload_n 0, 1) := by decide +kernel
theorem dX5_advance_85 : decode cX5_advance 85 = .ok (.getfield 25, 3) := by decide +kernel
theorem dX5_advance_88 : decode cX5_advance 88 = .ok (.aload_n 0, 1) := by decide +kernel
theorem dX5_advance_89 : decode cX5_advance 89 = .ok (.getfield 15, 3) := by decide +kernel
theorem dX5_advance_92 : decode cX5_advance 92 = .ok (.if_icmp .ge 34, 3) := by decide +kernel
theorem dX5_advance_95 : decode cX5_advance 95 = .ok (.aload_n 0, 1) := by decide +kernel
theorem dX5_advance_96 : decode cX5_advance 96 = .ok (.aload_n 0, 1) := by decide +kernel
theorem dX5_advance_97 : decode cX5_advance 97 = .ok (.getfield 25, 3) := by decide +kernel
theorem dX5_advance_100 : decode cX5_advance 100 = .ok (.invokevirtual 129, 3) := by decide +kernel
theorem dX5_advance_103 : decode cX5_advance 103 = .ok (.invokestatic 150, 3) := by decide +kernel
theorem dX5_advance_106 : decode cX5_advance 106 = .ok (.aload_n 0, 1) := by decide +kernel
theorem dX5_advance_107 : decode cX5_advance 107 = .ok (.getfield 28, 3) := by decide +kernel
theorem dX5_advance_110 : decode cX5_advance 110 = .ok (.if_icmp .ne 16, 3) := by decide +kernel
theorem dX5_advance_113 : decode cX5_advance 113 = .ok (.aload_n 0, 1) := by decide +kernel
theorem dX5_advance_114 : decode cX5_advance 114 = .ok (.dup, 1) := by decide +kernel
theorem dX5_advance_115 : decode cX5_advance 115 = .ok (.getfield 25, 3) := by decide +kernel
theorem dX5_advance_118 : decode cX5_advance 118 = .ok (.iconst 1, 1) := by decide +kernel
theorem dX5_advance_119 : decode cX5_advance 119 = .ok (.iadd, 1) := by decide +kernel
theorem dX5_advance_120 : decode cX5_advance 120 = .ok (.putfield 25, 3) := by decide +kernel
theorem dX5_advance_123 : decode cX5_advance 123 = .ok (.goto (-46), 3) := by decide +kernel
theorem dX5_advance_126 : decode cX5_advance 126 = .ok (.return_, 1) := by decide +kernel
set_option maxRecDepth 100000 in
theorem B_X5_advance_0 {d : Nat} {h : AbH} {K : Option AbV → AbH → Prop} {x0 : Nat} (hh : wpGI h (some x0) 4 4 (fun n1 => wpP h (some x0) 4 3 (vI n1) (fun h2 => Vx (d + 1) m_X5_advance 0 0 8 [some (vR (some x0))] [] h2 K))) : Vx (d + 1) m_X5_advance 0 0 0 [some (vR (some x0))] [] h K := by
  refine rr_aload_n dX5_advance_0 rfl rfl ?_
  refine rr_aload_n dX5_advance_1 rfl rfl ?_
  refine rr_getI cf_X5 (j := 4) (by decide) dX5_advance_2 rfl q_87 hh (fun n1 hh => ?_)
  refine rr_put cf_X5 (j := 3) (by decide) dX5_advance_5 rfl q_86 rfl (fty := .int) (by decide +kernel) rfl rfl hh (fun h2 hh => ?_)
  exact hh
set_option maxRecDepth 100000 in
theorem B_X5_advance_8 {d : Nat} {h : AbH} {K : Option AbV → AbH → Prop} {x0 : Nat} {bc bs : Nat} (hh : wpGI h (some x0) 4 3 (fun n1 => wpGI h (some x0) 4 1 (fun n2 => ((n2 ≤ n1 → Vx (d + 1) m_X5_advance bc bs 45 [some (vR (some x0))] [] h K) ∧ (¬ (n2 ≤ n1) → wpGI h (some x0) 4 3 (fun n3 => wpCV h (some x0) 4 (fun b9 => Vm d m_X5_byteAt [vR (some b9), vI n3] h (kI (fun n5 h4 => ((n5 ≠ 32 → Vx (d + 1) m_X5_advance bc bs 45 [some (vR (some x0))] [] h4 K) ∧ (¬ (n5 ≠ 32) → wpGI h4 (some x0) 4 3 (fun n6 => in32 (n6 + 1) ∧ wpP h4 (some x0) 4 3 (vI (n6 + 1)) (fun h8 => Vx (d + 1) m_X5_advance bc bs 8 [some (vR (some x0))] [] h8 K))))))))))))) : Vx (d + 1) m_X5_advance bc bs 8 [some (vR (some x0))] [] h K := by
  refine rr_aload_n dX5_advance_8 rfl rfl ?_
  refine rr_getI cf_X5 (j := 3) (by decide) dX5_advance_9 rfl q_86 hh (fun n1 hh => ?_)
  refine rr_aload_n dX5_advance_12 rfl rfl ?_
  refine rr_getI cf_X5 (j := 1) (by decide) dX5_advance_13 rfl q_82 hh (fun n2 hh => ?_)
  refine rr_icmp_ge (tgt := 45) dX5_advance_16 rfl (by decide) (fun hc16 => ?_) (fun hc16 => ?_)
  · have hh := hh.1 hc16
    exact hh
  · have hh := hh.2 hc16
    refine rr_aload_n dX5_advance_19 rfl rfl ?_
    refine rr_aload_n dX5_advance_20 rfl rfl ?_
    refine rr_getI cf_X5 (j := 3) (by decide) dX5_advance_21 rfl q_86 hh (fun n3 hh => ?_)
    refine rr_callW (bc' := bc) (bs' := bs) (q := (some x0)) (av := [vI n3]) (st := []) mf_X5_byteAt dX5_advance_24 rfl q_235 q_237 qs_1 ⟨_, _, rfl⟩ rfl (by decide) (Nat.le_refl _) (Nat.le_refl _) hh (rr_kI fun n5 h4 hh => ?_)
    refine rr_bipush dX5_advance_27 rfl ⟨by decide, by decide⟩ rfl ?_
    refine rr_icmp_ne (tgt := 45) dX5_advance_29 rfl (by decide) (fun hc29 => ?_) (fun hc29 => ?_)
    · have hh := hh.1 hc29
      exact hh
    · have hh := hh.2 hc29
      refine rr_aload_n dX5_advance_32 rfl rfl ?_
      refine rr_dup dX5_advance_33 rfl rfl ?_
      refine rr_getI cf_X5 (j := 3) (by decide) dX5_advance_34 rfl q_86 hh (fun n6 hh => ?_)
      refine rr_iconst dX5_advance_37 rfl ⟨by decide, by decide⟩ ?_
      obtain ⟨hz7, hh⟩ := hh
      refine rr_iadd dX5_advance_38 rfl hz7 ?_
      refine rr_put cf_X5 (j := 3) (by decide) dX5_advance_39 rfl q_86 rfl (fty := .int) (by decide +kernel) rfl rfl hh (fun h8 hh => ?_)
      refine rr_goto (pc' := 8) dX5_advance_42 (by decide) ?_
      exact hh
set_option maxRecDepth 100000 in
theorem B_X5_advance_45 {d : Nat} {h : AbH} {K : Option AbV → AbH → Prop} {x0 : Nat} {bc bs : Nat} (hh : wpGI h (some x0) 4 3 (fun n1 => in32 (n1 + 1) ∧ wpGI h (some x0) 4 1 (fun n3 => wpP h (some x0) 4 4 (vI (if n3 < (n1 + 1) then n3 else (n1 + 1))) (fun h4 => wpGI h4 (some x0) 4 3 (fun n5 => wpCV h4 (some x0) 4 (fun b11 => Vm d m_X5_byteAt [vR (some b11), vI n5] h4 (kI (fun n7 h6 => Vm d m_X5_kindOf [vI n7] h6 (kI (fun n9 h8 => wpP h8 (some x0) 4 5 (vI n9) (fun h10 => Vx (d + 1) m_X5_advance bc bs 77 [some (vR (some x0))] [] h10 K))))))))))) : Vx (d + 1) m_X5_advance bc bs 45 [some (vR (some x0))] [] h K := by
  refine rr_aload_n dX5_advance_45 rfl rfl ?_
  refine rr_aload_n dX5_advance_46 rfl rfl ?_
  refine rr_getI cf_X5 (j := 3) (by decide) dX5_advance_47 rfl q_86 hh (fun n1 hh => ?_)
  refine rr_iconst dX5_advance_50 rfl ⟨by decide, by decide⟩ ?_
  obtain ⟨hz2, hh⟩ := hh
  refine rr_iadd dX5_advance_51 rfl hz2 ?_
  refine rr_aload_n dX5_advance_52 rfl rfl ?_
  refine rr_getI cf_X5 (j := 1) (by decide) dX5_advance_53 rfl q_82 hh (fun n3 hh => ?_)
  refine rr_mmin dX5_advance_56 rfl q_239 q_240 q_9 q_241 (show 1 ≤ 8 by decide) ?_
  refine rr_put cf_X5 (j := 4) (by decide) dX5_advance_59 rfl q_87 rfl (fty := .int) (by decide +kernel) rfl rfl hh (fun h4 hh => ?_)
  refine rr_aload_n dX5_advance_62 rfl rfl ?_
  refine rr_aload_n dX5_advance_63 rfl rfl ?_
  refine rr_aload_n dX5_advance_64 rfl rfl ?_
  refine rr_getI cf_X5 (j := 3) (by decide) dX5_advance_65 rfl q_86 hh (fun n5 hh => ?_)
  refine rr_callW (bc' := bc) (bs' := bs) (q := (some x0)) (av := [vI n5]) (st := [vR (some x0)]) mf_X5_byteAt dX5_advance_68 rfl q_235 q_237 qs_1 ⟨_, _, rfl⟩ rfl (show 1 ≤ 8 by decide) (Nat.le_refl _) (Nat.le_refl _) hh (rr_kI fun n7 h6 hh => ?_)
  refine rr_callS (bc' := bc) (bs' := bs) (av := [vI n7]) (st := [vR (some x0)]) mf_X5_kindOf dX5_advance_71 rfl q_242 q_243 rfl (show 1 ≤ 8 by decide) (Nat.le_refl _) (Nat.le_refl _) hh (rr_kI fun n9 h8 hh => ?_)
  refine rr_put cf_X5 (j := 5) (by decide) dX5_advance_74 rfl q_88 rfl (fty := .int) (by decide +kernel) rfl rfl hh (fun h10 hh => ?_)
  exact hh
set_option maxRecDepth 100000 in
theorem B_X5_advance_77 {d : Nat} {h : AbH} {K : Option AbV → AbH → Prop} {x0 : Nat} {bc bs : Nat} (hh : wpGI h (some x0) 4 5 (fun n1 => ((n1 = 0 → K none h) ∧ (¬ (n1 = 0) → wpGI h (some x0) 4 4 (fun n2 => wpGI h (some x0) 4 1 (fun n3 => ((n3 ≤ n2 → K none h) ∧ (¬ (n3 ≤ n2) → wpGI h (some x0) 4 4 (fun n4 => wpCV h (some x0) 4 (fun b13 => Vm d m_X5_byteAt [vR (some b13), vI n4] h (kI (fun n6 h5 => Vm d m_X5_kindOf [vI n6] h5 (kI (fun n8 h7 => wpGI h7 (some x0) 4 5 (fun n9 => ((n8 ≠ n9 → K none h7) ∧ (¬ (n8 ≠ n9) → wpGI h7 (some x0) 4 4 (fun n10 => in32 (n10 + 1) ∧ wpP h7 (some x0) 4 4 (vI (n10 + 1)) (fun h12 => Vx (d + 1) m_X5_advance bc bs 77 [some (vR (some x0))] [] h12 K))))))))))))))))))) : Vx (d + 1) m_X5_advance bc bs 77 [some (vR (some x0))] [] h K := by
  refine rr_aload_n dX5_advance_77 rfl rfl ?_
  refine rr_getI cf_X5 (j := 5) (by decide) dX5_advance_78 rfl q_88 hh (fun n1 hh => ?_)
  refine rr_if_eq (tgt := 126) dX5_advance_81 rfl (by decide) (fun hc81 => ?_) (fun hc81 => ?_)
  · have hh := hh.1 hc81
    exact rr_vret dX5_advance_126 rfl hh
  · have hh := hh.2 hc81
    refine rr_aload_n dX5_advance_84 rfl rfl ?_
    refine rr_getI cf_X5 (j := 4) (by decide) dX5_advance_85 rfl q_87 hh (fun n2 hh => ?_)
    refine rr_aload_n dX5_advance_88 rfl rfl ?_
    refine rr_getI cf_X5 (j := 1) (by decide) dX5_advance_89 rfl q_82 hh (fun n3 hh => ?_)
    refine rr_icmp_ge (tgt := 126) dX5_advance_92 rfl (by decide) (fun hc92 => ?_) (fun hc92 => ?_)
    · have hh := hh.1 hc92
      exact rr_vret dX5_advance_126 rfl hh
    · have hh := hh.2 hc92
      refine rr_aload_n dX5_advance_95 rfl rfl ?_
      refine rr_aload_n dX5_advance_96 rfl rfl ?_
      refine rr_getI cf_X5 (j := 4) (by decide) dX5_advance_97 rfl q_87 hh (fun n4 hh => ?_)
      refine rr_callW (bc' := bc) (bs' := bs) (q := (some x0)) (av := [vI n4]) (st := []) mf_X5_byteAt dX5_advance_100 rfl q_235 q_237 qs_1 ⟨_, _, rfl⟩ rfl (by decide) (Nat.le_refl _) (Nat.le_refl _) hh (rr_kI fun n6 h5 hh => ?_)
      refine rr_callS (bc' := bc) (bs' := bs) (av := [vI n6]) (st := []) mf_X5_kindOf dX5_advance_103 rfl q_242 q_243 rfl (by decide) (Nat.le_refl _) (Nat.le_refl _) hh (rr_kI fun n8 h7 hh => ?_)
      refine rr_aload_n dX5_advance_106 rfl rfl ?_
      refine rr_getI cf_X5 (j := 5) (by decide) dX5_advance_107 rfl q_88 hh (fun n9 hh => ?_)
      refine rr_icmp_ne (tgt := 126) dX5_advance_110 rfl (by decide) (fun hc110 => ?_) (fun hc110 => ?_)
      · have hh := hh.1 hc110
        exact rr_vret dX5_advance_126 rfl hh
      · have hh := hh.2 hc110
        refine rr_aload_n dX5_advance_113 rfl rfl ?_
        refine rr_dup dX5_advance_114 rfl rfl ?_
        refine rr_getI cf_X5 (j := 4) (by decide) dX5_advance_115 rfl q_87 hh (fun n10 hh => ?_)
        refine rr_iconst dX5_advance_118 rfl ⟨by decide, by decide⟩ ?_
        obtain ⟨hz11, hh⟩ := hh
        refine rr_iadd dX5_advance_119 rfl hz11 ?_
        refine rr_put cf_X5 (j := 4) (by decide) dX5_advance_120 rfl q_87 rfl (fty := .int) (by decide +kernel) rfl rfl hh (fun h12 hh => ?_)
        refine rr_goto (pc' := 77) dX5_advance_123 (by decide) ?_
        exact hh
theorem dX5_kindOf_0 : decode cX5_kindOf 0 = .ok (.bipush 97, 2) := by decide +kernel
theorem dX5_kindOf_2 : decode cX5_kindOf 2 = .ok (.iload_n 0, 1) := by decide +kernel
theorem dX5_kindOf_3 : decode cX5_kindOf 3 = .ok (.if_icmp .gt 11, 3) := by decide +kernel
theorem dX5_kindOf_6 : decode cX5_kindOf 6 = .ok (.iload_n 0, 1) := by decide +kernel
theorem dX5_kindOf_7 : decode cX5_kindOf 7 = .ok (.bipush 122, 2) := by decide +kernel
theorem dX5_kindOf_9 : decode cX5_kindOf 9 = .ok (.if_icmp .gt 5, 3) := by decide +kernel
theorem dX5_kindOf_12 : decode cX5_kindOf 12 = .ok (.iconst 1, 1) := by decide +kernel
theorem dX5_kindOf_13 : decode cX5_kindOf 13 = .ok (.ireturn, 1) := by decide +kernel
theorem dX5_kindOf_14 : decode cX5_kindOf 14 = .ok (.bipush 48, 2) := by decide +kernel
theorem dX5_kindOf_16 : decode cX5_kindOf 16 = .ok (.iload_n 0, 1) := by decide +kernel
theorem dX5_kindOf_17 : decode cX5_kindOf 17 = .ok (.if_icmp .gt 13, 3) := by decide +kernel
theorem dX5_kindOf_20 : decode cX5_kindOf 20 = .ok (.iload_n 0, 1) := by decide +kernel
theorem dX5_kindOf_21 : decode cX5_kindOf 21 = .ok (.bipush 57, 2) := by decide +kernel
theorem dX5_kindOf_23 : decode cX5_kindOf 23 = .ok (.if_icmp .gt 7, 3) := by decide +kernel
theorem dX5_kindOf_26 : decode cX5_kindOf 26 = .ok (.iconst 2, 1) := by decide +kernel
theorem dX5_kindOf_27 : decode cX5_kindOf 27 = .ok (.goto 4, 3) := by decide +kernel
theorem dX5_kindOf_30 : decode cX5_kindOf 30 = .ok (.iconst 0, 1) := by decide +kernel
theorem dX5_kindOf_31 : decode cX5_kindOf 31 = .ok (.ireturn, 1) := by decide +kernel
set_option maxRecDepth 100000 in
theorem B_X5_kindOf_0 {d : Nat} {h : AbH} {K : Option AbV → AbH → Prop} {x0 : Int} (hh : ((x0 < 97 → ((x0 < 48 → K (some (vI 0)) h) ∧ (¬ (x0 < 48) → ((57 < x0 → K (some (vI 0)) h) ∧ (¬ (57 < x0) → K (some (vI 2)) h))))) ∧ (¬ (x0 < 97) → ((122 < x0 → ((x0 < 48 → K (some (vI 0)) h) ∧ (¬ (x0 < 48) → ((57 < x0 → K (some (vI 0)) h) ∧ (¬ (57 < x0) → K (some (vI 2)) h))))) ∧ (¬ (122 < x0) → K (some (vI 1)) h))))) : Vx (d + 1) m_X5_kindOf 0 0 0 [some (vI x0)] [] h K := by
  refine rr_bipush dX5_kindOf_0 rfl ⟨by decide, by decide⟩ rfl ?_
  refine rr_iload_n dX5_kindOf_2 rfl rfl ?_
  refine rr_icmp_gt (tgt := 14) dX5_kindOf_3 rfl (by decide) (fun hc3 => ?_) (fun hc3 => ?_)
  · have hh := hh.1 hc3
    refine rr_bipush dX5_kindOf_14 rfl ⟨by decide, by decide⟩ rfl ?_
    refine rr_iload_n dX5_kindOf_16 rfl rfl ?_
    refine rr_icmp_gt (tgt := 30) dX5_kindOf_17 rfl (by decide) (fun hc17 => ?_) (fun hc17 => ?_)
    · have hh := hh.1 hc17
      refine rr_iconst dX5_kindOf_30 rfl ⟨by decide, by decide⟩ ?_
      exact rr_iret dX5_kindOf_31 rfl hh
    · have hh := hh.2 hc17
      refine rr_iload_n dX5_kindOf_20 rfl rfl ?_
      refine rr_bipush dX5_kindOf_21 rfl ⟨by decide, by decide⟩ rfl ?_
      refine rr_icmp_gt (tgt := 30) dX5_kindOf_23 rfl (by decide) (fun hc23 => ?_) (fun hc23 => ?_)
      · have hh := hh.1 hc23
        refine rr_iconst dX5_kindOf_30 rfl ⟨by decide, by decide⟩ ?_
        exact rr_iret dX5_kindOf_31 rfl hh
      · have hh := hh.2 hc23
        refine rr_iconst dX5_kindOf_26 rfl ⟨by decide, by decide⟩ ?_
        refine rr_goto (pc' := 31) dX5_kindOf_27 (by decide) ?_
        exact rr_iret dX5_kindOf_31 rfl hh
  · have hh := hh.2 hc3
    refine rr_iload_n dX5_kindOf_6 rfl rfl ?_
    refine rr_bipush dX5_kindOf_7 rfl ⟨by decide, by decide⟩ rfl ?_
    refine rr_icmp_gt (tgt := 14) dX5_kindOf_9 rfl (by decide) (fun hc9 => ?_) (fun hc9 => ?_)
    · have hh := hh.1 hc9
      refine rr_bipush dX5_kindOf_14 rfl ⟨by decide, by decide⟩ rfl ?_
      refine rr_iload_n dX5_kindOf_16 rfl rfl ?_
      refine rr_icmp_gt (tgt := 30) dX5_kindOf_17 rfl (by decide) (fun hc17 => ?_) (fun hc17 => ?_)
      · have hh := hh.1 hc17
        refine rr_iconst dX5_kindOf_30 rfl ⟨by decide, by decide⟩ ?_
        exact rr_iret dX5_kindOf_31 rfl hh
      · have hh := hh.2 hc17
        refine rr_iload_n dX5_kindOf_20 rfl rfl ?_
        refine rr_bipush dX5_kindOf_21 rfl ⟨by decide, by decide⟩ rfl ?_
        refine rr_icmp_gt (tgt := 30) dX5_kindOf_23 rfl (by decide) (fun hc23 => ?_) (fun hc23 => ?_)
        · have hh := hh.1 hc23
          refine rr_iconst dX5_kindOf_30 rfl ⟨by decide, by decide⟩ ?_
          exact rr_iret dX5_kindOf_31 rfl hh
        · have hh := hh.2 hc23
          refine rr_iconst dX5_kindOf_26 rfl ⟨by decide, by decide⟩ ?_
          refine rr_goto (pc' := 31) dX5_kindOf_27 (by decide) ?_
          exact rr_iret dX5_kindOf_31 rfl hh
    · have hh := hh.2 hc9
      refine rr_iconst dX5_kindOf_12 rfl ⟨by decide, by decide⟩ ?_
      exact rr_iret dX5_kindOf_13 rfl hh
theorem dX5_byteAt_0 : decode cX5_byteAt 0 = .ok (.iload_n 1, 1) := by decide +kernel
theorem dX5_byteAt_1 : decode cX5_byteAt 1 = .ok (.ifCond .lt 29, 3) := by decide +kernel
theorem dX5_byteAt_4 : decode cX5_byteAt 4 = .ok (.iload_n 1, 1) := by decide +kernel
theorem dX5_byteAt_5 : decode cX5_byteAt 5 = .ok (.aload_n 0, 1) := by decide +kernel
theorem dX5_byteAt_6 : decode cX5_byteAt 6 = .ok (.getfield 15, 3) := by decide +kernel
theorem dX5_byteAt_9 : decode cX5_byteAt 9 = .ok (.if_icmp .ge 21, 3) := by decide +kernel
theorem dX5_byteAt_12 : decode cX5_byteAt 12 = .ok (.iload_n 1, 1) := by decide +kernel
theorem dX5_byteAt_13 : decode cX5_byteAt 13 = .ok (.aload_n 0, 1) := by decide +kernel
theorem dX5_byteAt_14 : decode cX5_byteAt 14 = .ok (.getfield 9, 3) := by decide +kernel
theorem dX5_byteAt_17 : decode cX5_byteAt 17 = .ok (.arraylength, 1) := by decide +kernel
theorem dX5_byteAt_18 : decode cX5_byteAt 18 = .ok (.if_icmp .ge 12, 3) := by decide +kernel
theorem dX5_byteAt_21 : decode cX5_byteAt 21 = .ok (.aload_n 0, 1) := by decide +kernel
theorem dX5_byteAt_22 : decode cX5_byteAt 22 = .ok (.getfield 9, 3) := by decide +kernel
theorem dX5_byteAt_25 : decode cX5_byteAt 25 = .ok (.iload_n 1, 1) := by decide +kernel
theorem dX5_byteAt_26 : decode cX5_byteAt 26 = .ok (.iaload, 1) := by decide +kernel
theorem dX5_byteAt_27 : decode cX5_byteAt 27 = .ok (.goto 4, 3) := by decide +kernel
theorem dX5_byteAt_30 : decode cX5_byteAt 30 = .ok (.iconst (-1), 1) := by decide +kernel
theorem dX5_byteAt_31 : decode cX5_byteAt 31 = .ok (.ireturn, 1) := by decide +kernel
set_option maxRecDepth 100000 in
theorem B_X5_byteAt_0 {d : Nat} {h : AbH} {K : Option AbV → AbH → Prop} {x0 : Nat} {x1 : Int} (hh : ((x1 < 0 → K (some (vI (-1))) h) ∧ (¬ (x1 < 0) → wpGI h (some x0) 4 1 (fun n1 => ((n1 ≤ x1 → K (some (vI (-1))) h) ∧ (¬ (n1 ≤ x1) → wpGR h (some x0) 4 0 (fun r2 => wpNI h r2 (fun n3 => ((n3 ≤ x1 → K (some (vI (-1))) h) ∧ (¬ (n3 ≤ x1) → wpGR h (some x0) 4 0 (fun r4 => wpLI h r4 x1 (fun n5 => K (some (vI n5)) h)))))))))))) : Vx (d + 1) m_X5_byteAt 0 0 0 [some (vR (some x0)), some (vI x1)] [] h K := by
  refine rr_iload_n dX5_byteAt_0 rfl rfl ?_
  refine rr_if_lt (tgt := 30) dX5_byteAt_1 rfl (by decide) (fun hc1 => ?_) (fun hc1 => ?_)
  · have hh := hh.1 hc1
    refine rr_iconst dX5_byteAt_30 rfl ⟨by decide, by decide⟩ ?_
    exact rr_iret dX5_byteAt_31 rfl hh
  · have hh := hh.2 hc1
    refine rr_iload_n dX5_byteAt_4 rfl rfl ?_
    refine rr_aload_n dX5_byteAt_5 rfl rfl ?_
    refine rr_getI cf_X5 (j := 1) (by decide) dX5_byteAt_6 rfl q_82 hh (fun n1 hh => ?_)
    refine rr_icmp_ge (tgt := 30) dX5_byteAt_9 rfl (by decide) (fun hc9 => ?_) (fun hc9 => ?_)
    · have hh := hh.1 hc9
      refine rr_iconst dX5_byteAt_30 rfl ⟨by decide, by decide⟩ ?_
      exact rr_iret dX5_byteAt_31 rfl hh
    · have hh := hh.2 hc9
      refine rr_iload_n dX5_byteAt_12 rfl rfl ?_
      refine rr_aload_n dX5_byteAt_13 rfl rfl ?_
      refine rr_getR cf_X5 (j := 0) (by decide) dX5_byteAt_14 rfl q_81 hh (fun r2 hh => ?_)
      refine rr_alenI dX5_byteAt_17 rfl hh (fun n3 hh => ?_)
      refine rr_icmp_ge (tgt := 30) dX5_byteAt_18 rfl (by decide) (fun hc18 => ?_) (fun hc18 => ?_)
      · have hh := hh.1 hc18
        refine rr_iconst dX5_byteAt_30 rfl ⟨by decide, by decide⟩ ?_
        exact rr_iret dX5_byteAt_31 rfl hh
      · have hh := hh.2 hc18
        refine rr_aload_n dX5_byteAt_21 rfl rfl ?_
        refine rr_getR cf_X5 (j := 0) (by decide) dX5_byteAt_22 rfl q_81 hh (fun r4 hh => ?_)
        refine rr_iload_n dX5_byteAt_25 rfl rfl ?_
        refine rr_iald dX5_byteAt_26 rfl hh (fun n5 hh => ?_)
        refine rr_goto (pc' := 31) dX5_byteAt_27 (by decide) ?_
        exact rr_iret dX5_byteAt_31 rfl hh
