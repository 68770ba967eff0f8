theorem dX8_init_0 : decode cX8_init 0 = .ok (.aload_n 0, 1) := by decide +kernel
theorem dX8_init_1 : decode cX8_init 1 = .ok (.invokespecial 3, 3) := by decide +kernel
theorem dX8_init_4 : decode cX8_init 4 = .ok (.aload_n 0, 1) := by decide +kernel
theorem dX8_init_5 : decode cX8_init 5 = .ok (.bipush 16, 2) := by decide +kernel
theorem dX8_init_7 : decode cX8_init 7 = .ok (.anewarray 9, 3) := by decide +kernel
theorem dX8_init_10 : decode cX8_init 10 = .ok (.putfield 11, 3) := by decide +kernel
theorem dX8_init_13 : decode cX8_init 13 = .ok (.aload_n 0, 1) := by decide +kernel
theorem dX8_init_14 : decode cX8_init 14 = .ok (.bipush 12, 2) := by decide +kernel
theorem dX8_init_16 : decode cX8_init 16 = .ok (.anewarray 17, 3) := by decide +kernel
theorem dX8_init_19 : decode cX8_init 19 = .ok (.putfield 19, 3) := by decide +kernel
theorem dX8_init_22 : decode cX8_init 22 = .ok (.aload_n 0, 1) := by decide +kernel
theorem dX8_init_23 : decode cX8_init 23 = .ok (.bipush 16, 2) := by decide +kernel
theorem dX8_init_25 : decode cX8_init 25 = .ok (.newarray .int, 2) := by decide +kernel
theorem dX8_init_27 : decode cX8_init 27 = .ok (.putfield 23, 3) := by decide +kernel
theorem dX8_init_30 : decode cX8_init 30 = .ok (.aload_n 0, 1) := by decide +kernel
theorem dX8_init_31 : decode cX8_init 31 = .ok (.bipush 16, 2) := by decide +kernel
theorem dX8_init_33 : decode cX8_init 33 = .ok (.newarray .int, 2) := by decide +kernel
theorem dX8_init_35 : decode cX8_init 35 = .ok (.putfield 27, 3) := by decide +kernel
theorem dX8_init_38 : decode cX8_init 38 = .ok (.aload_n 0, 1) := by decide +kernel
theorem dX8_init_39 : decode cX8_init 39 = .ok (.iconst 0, 1) := by decide +kernel
theorem dX8_init_40 : decode cX8_init 40 = .ok (.putfield 30, 3) := by decide +kernel
theorem dX8_init_43 : decode cX8_init 43 = .ok (.aload_n 0, 1) := by decide +kernel
theorem dX8_init_44 : decode cX8_init 44 = .ok (.iconst 0, 1) := by decide +kernel
theorem dX8_init_45 : decode cX8_init 45 = .ok (.putfield 34, 3) := by decide +kernel
theorem dX8_init_48 : decode cX8_init 48 = .ok (.iconst 0, 1) := by decide +kernel
theorem dX8_init_49 : decode cX8_init 49 = .ok (.istore_n 1, 1) := by decide +kernel
theorem dX8_init_50 : decode cX8_init 50 = .ok (.iload_n 1, 1) := by decide +kernel
theorem dX8_init_51 : decode cX8_init 51 = .ok (.bipush 16, 2) := by decide +kernel
theorem dX8_init_53 : decode cX8_init 53 = .ok (.if_icmp .ge 23, 3) := by decide +kernel
theorem dX8_init_56 : decode cX8_init 56 = .ok (.aload_n 0, 1) := by decide +kernel
theorem dX8_init_57 : decode cX8_init 57 = .ok (.getfield 23, 3) := by decide +kernel
theorem dX8_init_60 : decode cX8_init 60 = .ok (.iload_n 1, 1) := by decide +kernel
theorem dX8_init_61 : decode cX8_init 61 = .ok (.iconst (-1), 1) := by decide +kernel
theorem dX8_init_62 : decode cX8_init 62 = .ok (.iastore, 1) := by decide +kernel
theorem dX8_init_63 : decode cX8_init 63 = .ok (.aload_n 0, 1) := by decide +kernel
theorem dX8_init_64 : decode cX8_init 64 = .ok (.getfield 27, 3) := by decide +kernel
theorem dX8_init_67 : decode cX8_init 67 = .ok (.iload_n 1, 1) := by decide +kernel
theorem dX8_init_68 : decode cX8_init 68 = .ok (.iconst (-1), 1) := by decide +kernel
theorem dX8_init_69 : decode cX8_init 69 = .ok (.iastore, 1) := by decide +kernel
theorem dX8_init_70 : decode cX8_init 70 = .ok (.iinc 1 1, 3) := by decide +kernel
theorem dX8_init_73 : decode cX8_init 73 = .ok (.goto (-23), 3) := by decide +kernel
theorem dX8_init_76 : decode cX8_init 76 = .ok (.return_, 1) := by decide +kernel
set_option maxRecDepth 100000 in
theorem B_X8_init_0 {d : Nat} {h : AbH} {K : Option AbV → AbH → Prop} {x0 : Nat} (hh : ∀ q1 : Nat, ab_new h q1 → ∀ h2 : AbH, h2 = hsR h q1 (0, 16, fun _ => none) → wpP h2 (some x0) 7 0 (vR (some q1)) (fun h5 => ∀ q6 : Nat, ab_new h5 q6 → ∀ h7 : AbH, h7 = hsR h5 q6 (2, 12, fun _ => none) → wpP h7 (some x0) 7 1 (vR (some q6)) (fun h10 => ∀ q11 : Nat, ab_new h10 q11 → ∀ h12 : AbH, h12 = hsI h10 q11 (16, fun _ => 0) → wpP h12 (some x0) 7 2 (vR (some q11)) (fun h15 => ∀ q16 : Nat, ab_new h15 q16 → ∀ h17 : AbH, h17 = hsI h15 q16 (16, fun _ => 0) → wpP h17 (some x0) 7 3 (vR (some q16)) (fun h20 => wpP h20 (some x0) 7 4 (vI 0) (fun h21 => wpP h21 (some x0) 7 5 (vI 0) (fun h22 => Vx (d + 1) m_X8_init 0 0 50 [some (vR (some x0)), some (vI 0)] [] h22 K))))))) : Vx (d + 1) m_X8_init 4 60 0 [some (vR (some x0))] [] h K := by
  refine Vx.pad 1 [some (vR (some x0)), none] rfl ?_
  refine rr_aload_n dX8_init_0 rfl rfl ?_
  refine rr_objInit dX8_init_1 rfl q_30 q_23 q_24 (by decide) ?_
  refine rr_aload_n dX8_init_4 rfl rfl ?_
  refine rr_bipush dX8_init_5 rfl ⟨by decide, by decide⟩ rfl ?_
  refine rr_newR (bc' := 3) (bs' := 44) (n := 16) 0 (Or.inl rfl) dX8_init_7 rfl q_31 rfl (by decide) (by decide) (by decide) (fun q1 hz => ?_)
  have hh := hh q1 hz _ rfl
  generalize hsR h q1 (0, 16, fun _ => none) = h2 at hh ⊢
  refine rr_putF cf_X8 (j := 0) (by decide) dX8_init_10 rfl q_35 rfl rfl rfl (fty := .array (.object "LoanLayers$Law")) (by decide +kernel) (by first | rfl | exact rn_r _ _ (by first | exact Or.inl ⟨_, rfl⟩ | exact Or.inr ⟨_, rfl⟩)) (by first | rfl | exact rf_r _ _ (by first | exact Or.inl ⟨_, rfl⟩ | exact Or.inr ⟨_, rfl⟩)) hh (fun h5 hh => ?_)
  refine rr_aload_n dX8_init_13 rfl rfl ?_
  refine rr_bipush dX8_init_14 rfl ⟨by decide, by decide⟩ rfl ?_
  refine rr_newR (bc' := 2) (bs' := 32) (n := 12) 2 (Or.inr (Or.inl rfl)) dX8_init_16 rfl q_33 rfl (by decide) (by decide) (by decide) (fun q6 hz => ?_)
  have hh := hh q6 hz _ rfl
  generalize hsR h5 q6 (2, 12, fun _ => none) = h7 at hh ⊢
  refine rr_putF cf_X8 (j := 1) (by decide) dX8_init_19 rfl q_36 rfl rfl rfl (fty := .array (.object "LoanLayers$Loan")) (by decide +kernel) (by first | rfl | exact rn_r _ _ (by first | exact Or.inl ⟨_, rfl⟩ | exact Or.inr ⟨_, rfl⟩)) (by first | rfl | exact rf_r _ _ (by first | exact Or.inl ⟨_, rfl⟩ | exact Or.inr ⟨_, rfl⟩)) hh (fun h10 hh => ?_)
  refine rr_aload_n dX8_init_22 rfl rfl ?_
  refine rr_bipush dX8_init_23 rfl ⟨by decide, by decide⟩ rfl ?_
  refine rr_newI (bc' := 1) (bs' := 16) (n := 16) dX8_init_25 rfl q_58 rfl (by decide) (by decide) (by decide) (fun q11 hz => ?_)
  have hh := hh q11 hz _ rfl
  generalize hsI h10 q11 (16, fun _ => 0) = h12 at hh ⊢
  refine rr_putF cf_X8 (j := 2) (by decide) dX8_init_27 rfl q_37 rfl rfl rfl (fty := .array (.int)) (by decide +kernel) (by first | rfl | exact rn_r _ _ (by first | exact Or.inl ⟨_, rfl⟩ | exact Or.inr ⟨_, rfl⟩)) (by first | rfl | exact rf_r _ _ (by first | exact Or.inl ⟨_, rfl⟩ | exact Or.inr ⟨_, rfl⟩)) hh (fun h15 hh => ?_)
  refine rr_aload_n dX8_init_30 rfl rfl ?_
  refine rr_bipush dX8_init_31 rfl ⟨by decide, by decide⟩ rfl ?_
  refine rr_newI (bc' := 0) (bs' := 0) (n := 16) dX8_init_33 rfl q_58 rfl (by decide) (by decide) (by decide) (fun q16 hz => ?_)
  have hh := hh q16 hz _ rfl
  generalize hsI h15 q16 (16, fun _ => 0) = h17 at hh ⊢
  refine rr_putF cf_X8 (j := 3) (by decide) dX8_init_35 rfl q_38 rfl rfl rfl (fty := .array (.int)) (by decide +kernel) (by first | rfl | exact rn_r _ _ (by first | exact Or.inl ⟨_, rfl⟩ | exact Or.inr ⟨_, rfl⟩)) (by first | rfl | exact rf_r _ _ (by first | exact Or.inl ⟨_, rfl⟩ | exact Or.inr ⟨_, rfl⟩)) hh (fun h20 hh => ?_)
  refine rr_aload_n dX8_init_38 rfl rfl ?_
  refine rr_iconst dX8_init_39 rfl ⟨by decide, by decide⟩ ?_
  refine rr_put cf_X8 (j := 4) (by decide) dX8_init_40 rfl q_39 rfl (fty := .int) (by decide +kernel) rfl rfl hh (fun h21 hh => ?_)
  refine rr_aload_n dX8_init_43 rfl rfl ?_
  refine rr_iconst dX8_init_44 rfl ⟨by decide, by decide⟩ ?_
  refine rr_put cf_X8 (j := 5) (by decide) dX8_init_45 rfl q_42 rfl (fty := .int) (by decide +kernel) rfl rfl hh (fun h22 hh => ?_)
  refine rr_iconst dX8_init_48 rfl ⟨by decide, by decide⟩ ?_
  refine rr_istore_n (ls' := [some (vR (some x0)), some (vI 0)]) dX8_init_49 rfl (by decide) (fun _ z => by cases z) rfl ?_
  exact hh
set_option maxRecDepth 100000 in
theorem B_X8_init_50 {d : Nat} {h : AbH} {K : Option AbV → AbH → Prop} {x0 : Nat} {x1 : Int} {bc bs : Nat} (hh : ((16 ≤ x1 → K none h) ∧ (¬ (16 ≤ x1) → wpGR h (some x0) 7 2 (fun r1 => wpSI h r1 x1 (-1) (fun h2 => wpGR h2 (some x0) 7 3 (fun r3 => wpSI h2 r3 x1 (-1) (fun h4 => in32 (x1 + 1) ∧ Vx (d + 1) m_X8_init bc bs 50 [some (vR (some x0)), some (vI (x1 + 1))] [] h4 K))))))) : Vx (d + 1) m_X8_init bc bs 50 [some (vR (some x0)), some (vI x1)] [] h K := by
  refine rr_iload_n dX8_init_50 rfl rfl ?_
  refine rr_bipush dX8_init_51 rfl ⟨by decide, by decide⟩ rfl ?_
  refine rr_icmp_ge (tgt := 76) dX8_init_53 rfl (by decide) (fun hc53 => ?_) (fun hc53 => ?_)
  · have hh := hh.1 hc53
    exact rr_vret dX8_init_76 rfl hh
  · have hh := hh.2 hc53
    refine rr_aload_n dX8_init_56 rfl rfl ?_
    refine rr_getR cf_X8 (j := 2) (by decide) dX8_init_57 rfl q_37 hh (fun r1 hh => ?_)
    refine rr_iload_n dX8_init_60 rfl rfl ?_
    refine rr_iconst dX8_init_61 rfl ⟨by decide, by decide⟩ ?_
    refine rr_iast dX8_init_62 rfl hh (fun h2 hh => ?_)
    refine rr_aload_n dX8_init_63 rfl rfl ?_
    refine rr_getR cf_X8 (j := 3) (by decide) dX8_init_64 rfl q_38 hh (fun r3 hh => ?_)
    refine rr_iload_n dX8_init_67 rfl rfl ?_
    refine rr_iconst dX8_init_68 rfl ⟨by decide, by decide⟩ ?_
    refine rr_iast dX8_init_69 rfl hh (fun h4 hh => ?_)
    obtain ⟨hz5, hh⟩ := hh
    refine rr_iinc (ls' := [some (vR (some x0)), some (vI (x1 + 1))]) dX8_init_70 rfl rfl (by decide) (fun _ z => by cases z) hz5 rfl ?_
    refine rr_goto (pc' := 50) dX8_init_73 (by decide) ?_
    exact hh
theorem dX8_copy_0 : decode cX8_copy 0 = .ok (.new 12, 3) := by decide +kernel
theorem dX8_copy_3 : decode cX8_copy 3 = .ok (.dup, 1) := by decide +kernel
theorem dX8_copy_4 : decode cX8_copy 4 = .ok (.invokespecial 37, 3) := by decide +kernel
theorem dX8_copy_7 : decode cX8_copy 7 = .ok (.astore_n 1, 1) := by decide +kernel
theorem dX8_copy_8 : decode cX8_copy 8 = .ok (.iconst 0, 1) := by decide +kernel
theorem dX8_copy_9 : decode cX8_copy 9 = .ok (.istore_n 2, 1) := by decide +kernel
theorem dX8_copy_10 : decode cX8_copy 10 = .ok (.iload_n 2, 1) := by decide +kernel
theorem dX8_copy_11 : decode cX8_copy 11 = .ok (.bipush 16, 2) := by decide +kernel
theorem dX8_copy_13 : decode cX8_copy 13 = .ok (.if_icmp .ge 21, 3) := by decide +kernel
theorem dX8_copy_16 : decode cX8_copy 16 = .ok (.aload_n 1, 1) := by decide +kernel
theorem dX8_copy_17 : decode cX8_copy 17 = .ok (.getfield 11, 3) := by decide +kernel
theorem dX8_copy_20 : decode cX8_copy 20 = .ok (.iload_n 2, 1) := by decide +kernel
theorem dX8_copy_21 : decode cX8_copy 21 = .ok (.aload_n 0, 1) := by decide +kernel
theorem dX8_copy_22 : decode cX8_copy 22 = .ok (.getfield 11, 3) := by decide +kernel
theorem dX8_copy_25 : decode cX8_copy 25 = .ok (.iload_n 2, 1) := by decide +kernel
theorem dX8_copy_26 : decode cX8_copy 26 = .ok (.aaload, 1) := by decide +kernel
theorem dX8_copy_27 : decode cX8_copy 27 = .ok (.aastore, 1) := by decide +kernel
theorem dX8_copy_28 : decode cX8_copy 28 = .ok (.iinc 2 1, 3) := by decide +kernel
theorem dX8_copy_31 : decode cX8_copy 31 = .ok (.goto (-21), 3) := by decide +kernel
theorem dX8_copy_34 : decode cX8_copy 34 = .ok (.iconst 0, 1) := by decide +kernel
theorem dX8_copy_35 : decode cX8_copy 35 = .ok (.istore_n 2, 1) := by decide +kernel
theorem dX8_copy_36 : decode cX8_copy 36 = .ok (.iload_n 2, 1) := by decide +kernel
theorem dX8_copy_37 : decode cX8_copy 37 = .ok (.bipush 12, 2) := by decide +kernel
theorem dX8_copy_39 : decode cX8_copy 39 = .ok (.if_icmp .ge 21, 3) := by decide +kernel
theorem dX8_copy_42 : decode cX8_copy 42 = .ok (.aload_n 1, 1) := by decide +kernel
theorem dX8_copy_43 : decode cX8_copy 43 = .ok (.getfield 19, 3) := by decide +kernel
theorem dX8_copy_46 : decode cX8_copy 46 = .ok (.iload_n 2, 1) := by decide +kernel
theorem dX8_copy_47 : decode cX8_copy 47 = .ok (.aload_n 0, 1) := by decide +kernel
theorem dX8_copy_48 : decode cX8_copy 48 = .ok (.getfield 19, 3) := by decide +kernel
theorem dX8_copy_51 : decode cX8_copy 51 = .ok (.iload_n 2, 1) := by decide +kernel
theorem dX8_copy_52 : decode cX8_copy 52 = .ok (.aaload, 1) := by decide +kernel
theorem dX8_copy_53 : decode cX8_copy 53 = .ok (.aastore, 1) := by decide +kernel
theorem dX8_copy_54 : decode cX8_copy 54 = .ok (.iinc 2 1, 3) := by decide +kernel
theorem dX8_copy_57 : decode cX8_copy 57 = .ok (.goto (-21), 3) := by decide +kernel
theorem dX8_copy_60 : decode cX8_copy 60 = .ok (.iconst 0, 1) := by decide +kernel
theorem dX8_copy_61 : decode cX8_copy 61 = .ok (.istore_n 2, 1) := by decide +kernel
theorem dX8_copy_62 : decode cX8_copy 62 = .ok (.iload_n 2, 1) := by decide +kernel
theorem dX8_copy_63 : decode cX8_copy 63 = .ok (.bipush 16, 2) := by decide +kernel
theorem dX8_copy_65 : decode cX8_copy 65 = .ok (.if_icmp .ge 26, 3) := by decide +kernel
theorem dX8_copy_68 : decode cX8_copy 68 = .ok (.aload_n 1, 1) := by decide +kernel
theorem dX8_copy_69 : decode cX8_copy 69 = .ok (.iload_n 2, 1) := by decide +kernel
theorem dX8_copy_70 : decode cX8_copy 70 = .ok (.aload_n 0, 1) := by decide +kernel
theorem dX8_copy_71 : decode cX8_copy 71 = .ok (.getfield 23, 3) := by decide +kernel
theorem dX8_copy_74 : decode cX8_copy 74 = .ok (.iload_n 2, 1) := by decide +kernel
theorem dX8_copy_75 : decode cX8_copy 75 = .ok (.iaload, 1) := by decide +kernel
theorem dX8_copy_76 : decode cX8_copy 76 = .ok (.aload_n 0, 1) := by decide +kernel
theorem dX8_copy_77 : decode cX8_copy 77 = .ok (.getfield 27, 3) := by decide +kernel
theorem dX8_copy_80 : decode cX8_copy 80 = .ok (.iload_n 2, 1) := by decide +kernel
theorem dX8_copy_81 : decode cX8_copy 81 = .ok (.iaload, 1) := by decide +kernel
theorem dX8_copy_82 : decode cX8_copy 82 = .ok (.invokevirtual 38, 3) := by decide +kernel
theorem dX8_copy_85 : decode cX8_copy 85 = .ok (.iinc 2 1, 3) := by decide +kernel
theorem dX8_copy_88 : decode cX8_copy 88 = .ok (.goto (-26), 3) := by decide +kernel
theorem dX8_copy_91 : decode cX8_copy 91 = .ok (.aload_n 1, 1) := by decide +kernel
theorem dX8_copy_92 : decode cX8_copy 92 = .ok (.aload_n 0, 1) := by decide +kernel
theorem dX8_copy_93 : decode cX8_copy 93 = .ok (.getfield 30, 3) := by decide +kernel
theorem dX8_copy_96 : decode cX8_copy 96 = .ok (.putfield 30, 3) := by decide +kernel
theorem dX8_copy_99 : decode cX8_copy 99 = .ok (.aload_n 1, 1) := by decide +kernel
theorem dX8_copy_100 : decode cX8_copy 100 = .ok (.aload_n 0, 1) := by decide +kernel
theorem dX8_copy_101 : decode cX8_copy 101 = .ok (.getfield 34, 3) := by decide +kernel
theorem dX8_copy_104 : decode cX8_copy 104 = .ok (.putfield 34, 3) := by decide +kernel
theorem dX8_copy_107 : decode cX8_copy 107 = .ok (.aload_n 1, 1) := by decide +kernel
theorem dX8_copy_108 : decode cX8_copy 108 = .ok (.areturn, 1) := by decide +kernel
set_option maxRecDepth 100000 in
theorem B_X8_copy_0 {d : Nat} {h : AbH} {K : Option AbV → AbH → Prop} {x0 : Nat} (hh : ∀ q1 : Nat, ab_new h q1 → ∀ h2 : AbH, h2 = hsO h q1 (7, [vR none, vR none, vR none, vR none, vI 0, vI 0]) → Vm d m_X8_init [vR (some q1)] h2 (kV (fun h5 => Vx (d + 1) m_X8_copy 0 0 10 [some (vR (some x0)), some (vR (some q1)), some (vI 0)] [] h5 K))) : Vx (d + 1) m_X8_copy 5 66 0 [some (vR (some x0))] [] h K := by
  refine Vx.pad 2 [some (vR (some x0)), none, none] rfl ?_
  refine rr_new (bc' := 4) (bs' := 60) cf_X8 (fs := [vR none, vR none, vR none, vR none, vI 0, vI 0]) dX8_copy_0 rfl q_220 q_26 q_2 (fun j hj => by rcases (show j = 0 ∨ j = 1 ∨ j = 2 ∨ j = 3 ∨ j = 4 ∨ j = 5 by omega) with rfl | rfl | rfl | rfl | rfl | rfl <;> rfl) (by intro v hv; simp only [List.mem_cons, List.not_mem_nil, or_false] at hv; rcases hv with rfl | rfl | rfl | rfl | rfl | rfl <;> first | trivial | exact ⟨by decide, by decide⟩) (by decide) (by decide) (fun q1 hz => ?_)
  have hh := hh q1 hz _ rfl
  generalize hsO h q1 (7, [vR none, vR none, vR none, vR none, vI 0, vI 0]) = h2 at hh ⊢
  refine rr_dup dX8_copy_3 rfl rfl ?_
  refine rr_callI (bc' := 0) (bs' := 0) (b := q1) (av := []) (st := [vR (some q1)]) mf_X8_init rfl rfl dX8_copy_4 rfl q_221 q_28 rfl (show 1 ≤ 8 by decide) (by decide) (by decide) hh (rr_kV fun h5 hh => ?_)
  refine rr_astore_n (ls' := [some (vR (some x0)), some (vR (some q1)), none]) dX8_copy_7 rfl (by decide) (fun _ z => by cases z) rfl ?_
  refine rr_iconst dX8_copy_8 rfl ⟨by decide, by decide⟩ ?_
  refine rr_istore_n (ls' := [some (vR (some x0)), some (vR (some q1)), some (vI 0)]) dX8_copy_9 rfl (by decide) (fun _ z => by cases z) rfl ?_
  exact hh
set_option maxRecDepth 100000 in
theorem B_X8_copy_10 {d : Nat} {h : AbH} {K : Option AbV → AbH → Prop} {x0 : Nat} {x1 : Option Nat} {x2 : Int} {bc bs : Nat} (hh : ((16 ≤ x2 → Vx (d + 1) m_X8_copy bc bs 36 [some (vR (some x0)), some (vR x1), some (vI 0)] [] h K) ∧ (¬ (16 ≤ x2) → wpGR h x1 7 0 (fun r1 => wpGR h (some x0) 7 0 (fun r2 => wpLR h r2 x2 (fun r3 => wpSR h r1 x2 r3 (fun h4 => in32 (x2 + 1) ∧ Vx (d + 1) m_X8_copy bc bs 10 [some (vR (some x0)), some (vR x1), some (vI (x2 + 1))] [] h4 K))))))) : Vx (d + 1) m_X8_copy bc bs 10 [some (vR (some x0)), some (vR x1), some (vI x2)] [] h K := by
  refine rr_iload_n dX8_copy_10 rfl rfl ?_
  refine rr_bipush dX8_copy_11 rfl ⟨by decide, by decide⟩ rfl ?_
  refine rr_icmp_ge (tgt := 34) dX8_copy_13 rfl (by decide) (fun hc13 => ?_) (fun hc13 => ?_)
  · have hh := hh.1 hc13
    refine rr_iconst dX8_copy_34 rfl ⟨by decide, by decide⟩ ?_
    refine rr_istore_n (ls' := [some (vR (some x0)), some (vR x1), some (vI 0)]) dX8_copy_35 rfl (by decide) (fun _ z => by cases z) rfl ?_
    exact hh
  · have hh := hh.2 hc13
    refine rr_aload_n dX8_copy_16 rfl rfl ?_
    refine rr_getR cf_X8 (j := 0) (by decide) dX8_copy_17 rfl q_35 hh (fun r1 hh => ?_)
    refine rr_iload_n dX8_copy_20 rfl rfl ?_
    refine rr_aload_n dX8_copy_21 rfl rfl ?_
    refine rr_getR cf_X8 (j := 0) (by decide) dX8_copy_22 rfl q_35 hh (fun r2 hh => ?_)
    refine rr_iload_n dX8_copy_25 rfl rfl ?_
    refine rr_aald dX8_copy_26 rfl hh (fun r3 hh => ?_)
    refine rr_aast dX8_copy_27 rfl hh (fun h4 hh => ?_)
    obtain ⟨hz5, hh⟩ := hh
    refine rr_iinc (ls' := [some (vR (some x0)), some (vR x1), some (vI (x2 + 1))]) dX8_copy_28 rfl rfl (by decide) (fun _ z => by cases z) hz5 rfl ?_
    refine rr_goto (pc' := 10) dX8_copy_31 (by decide) ?_
    exact hh
set_option maxRecDepth 100000 in
theorem B_X8_copy_36 {d : Nat} {h : AbH} {K : Option AbV → AbH → Prop} {x0 : Nat} {x1 : Option Nat} {x2 : Int} {bc bs : Nat} (hh : ((12 ≤ x2 → Vx (d + 1) m_X8_copy bc bs 62 [some (vR (some x0)), some (vR x1), some (vI 0)] [] h K) ∧ (¬ (12 ≤ x2) → wpGR h x1 7 1 (fun r1 => wpGR h (some x0) 7 1 (fun r2 => wpLR h r2 x2 (fun r3 => wpSR h r1 x2 r3 (fun h4 => in32 (x2 + 1) ∧ Vx (d + 1) m_X8_copy bc bs 36 [some (vR (some x0)), some (vR x1), some (vI (x2 + 1))] [] h4 K))))))) : Vx (d + 1) m_X8_copy bc bs 36 [some (vR (some x0)), some (vR x1), some (vI x2)] [] h K := by
  refine rr_iload_n dX8_copy_36 rfl rfl ?_
  refine rr_bipush dX8_copy_37 rfl ⟨by decide, by decide⟩ rfl ?_
  refine rr_icmp_ge (tgt := 60) dX8_copy_39 rfl (by decide) (fun hc39 => ?_) (fun hc39 => ?_)
  · have hh := hh.1 hc39
    refine rr_iconst dX8_copy_60 rfl ⟨by decide, by decide⟩ ?_
    refine rr_istore_n (ls' := [some (vR (some x0)), some (vR x1), some (vI 0)]) dX8_copy_61 rfl (by decide) (fun _ z => by cases z) rfl ?_
    exact hh
  · have hh := hh.2 hc39
    refine rr_aload_n dX8_copy_42 rfl rfl ?_
    refine rr_getR cf_X8 (j := 1) (by decide) dX8_copy_43 rfl q_36 hh (fun r1 hh => ?_)
    refine rr_iload_n dX8_copy_46 rfl rfl ?_
    refine rr_aload_n dX8_copy_47 rfl rfl ?_
    refine rr_getR cf_X8 (j := 1) (by decide) dX8_copy_48 rfl q_36 hh (fun r2 hh => ?_)
    refine rr_iload_n dX8_copy_51 rfl rfl ?_
    refine rr_aald dX8_copy_52 rfl hh (fun r3 hh => ?_)
    refine rr_aast dX8_copy_53 rfl hh (fun h4 hh => ?_)
    obtain ⟨hz5, hh⟩ := hh
    refine rr_iinc (ls' := [some (vR (some x0)), some (vR x1), some (vI (x2 + 1))]) dX8_copy_54 rfl rfl (by decide) (fun _ z => by cases z) hz5 rfl ?_
    refine rr_goto (pc' := 36) dX8_copy_57 (by decide) ?_
    exact hh
set_option maxRecDepth 100000 in
theorem B_X8_copy_62 {d : Nat} {h : AbH} {K : Option AbV → AbH → Prop} {x0 : Nat} {x1 : Option Nat} {x2 : Int} {bc bs : Nat} (hh : ((16 ≤ x2 → wpGI h (some x0) 7 4 (fun n1 => wpP h x1 7 4 (vI n1) (fun h2 => wpGI h2 (some x0) 7 5 (fun n3 => wpP h2 x1 7 5 (vI n3) (fun h4 => K (some (vR x1)) h4))))) ∧ (¬ (16 ≤ x2) → wpGR h (some x0) 7 2 (fun r5 => wpLI h r5 x2 (fun n6 => wpGR h (some x0) 7 3 (fun r7 => wpLI h r7 x2 (fun n8 => wpCV h x1 7 (fun b11 => Vm d m_X8_setMeeting [vR (some b11), vI x2, vI n6, vI n8] h (kV (fun h9 => in32 (x2 + 1) ∧ Vx (d + 1) m_X8_copy bc bs 62 [some (vR (some x0)), some (vR x1), some (vI (x2 + 1))] [] h9 K)))))))))) : Vx (d + 1) m_X8_copy bc bs 62 [some (vR (some x0)), some (vR x1), some (vI x2)] [] h K := by
  refine rr_iload_n dX8_copy_62 rfl rfl ?_
  refine rr_bipush dX8_copy_63 rfl ⟨by decide, by decide⟩ rfl ?_
  refine rr_icmp_ge (tgt := 91) dX8_copy_65 rfl (by decide) (fun hc65 => ?_) (fun hc65 => ?_)
  · have hh := hh.1 hc65
    refine rr_aload_n dX8_copy_91 rfl rfl ?_
    refine rr_aload_n dX8_copy_92 rfl rfl ?_
    refine rr_getI cf_X8 (j := 4) (by decide) dX8_copy_93 rfl q_39 hh (fun n1 hh => ?_)
    refine rr_put cf_X8 (j := 4) (by decide) dX8_copy_96 rfl q_39 rfl (fty := .int) (by decide +kernel) rfl rfl hh (fun h2 hh => ?_)
    refine rr_aload_n dX8_copy_99 rfl rfl ?_
    refine rr_aload_n dX8_copy_100 rfl rfl ?_
    refine rr_getI cf_X8 (j := 5) (by decide) dX8_copy_101 rfl q_42 hh (fun n3 hh => ?_)
    refine rr_put cf_X8 (j := 5) (by decide) dX8_copy_104 rfl q_42 rfl (fty := .int) (by decide +kernel) rfl rfl hh (fun h4 hh => ?_)
    refine rr_aload_n dX8_copy_107 rfl rfl ?_
    exact rr_aret dX8_copy_108 rfl (Or.inl ⟨_, rfl⟩) hh
  · have hh := hh.2 hc65
    refine rr_aload_n dX8_copy_68 rfl rfl ?_
    refine rr_iload_n dX8_copy_69 rfl rfl ?_
    refine rr_aload_n dX8_copy_70 rfl rfl ?_
    refine rr_getR cf_X8 (j := 2) (by decide) dX8_copy_71 rfl q_37 hh (fun r5 hh => ?_)
    refine rr_iload_n dX8_copy_74 rfl rfl ?_
    refine rr_iald dX8_copy_75 rfl hh (fun n6 hh => ?_)
    refine rr_aload_n dX8_copy_76 rfl rfl ?_
    refine rr_getR cf_X8 (j := 3) (by decide) dX8_copy_77 rfl q_38 hh (fun r7 hh => ?_)
    refine rr_iload_n dX8_copy_80 rfl rfl ?_
    refine rr_iald dX8_copy_81 rfl hh (fun n8 hh => ?_)
    refine rr_callW (bc' := bc) (bs' := bs) (q := x1) (av := [vI x2, vI n6, vI n8]) (st := []) mf_X8_setMeeting dX8_copy_82 rfl q_222 q_223 q_224 ⟨_, _, rfl⟩ rfl (by decide) (Nat.le_refl _) (Nat.le_refl _) hh (rr_kV fun h9 hh => ?_)
    obtain ⟨hz10, hh⟩ := hh
    refine rr_iinc (ls' := [some (vR (some x0)), some (vR x1), some (vI (x2 + 1))]) dX8_copy_85 rfl rfl (by decide) (fun _ z => by cases z) hz10 rfl ?_
    refine rr_goto (pc' := 62) dX8_copy_88 (by decide) ?_
    exact hh
theorem dX8_clear_0 : decode cX8_clear 0 = .ok (.iconst 0, 1) := by decide +kernel
theorem dX8_clear_1 : decode cX8_clear 1 = .ok (.istore_n 1, 1) := by decide +kernel
theorem dX8_clear_2 : decode cX8_clear 2 = .ok (.iload_n 1, 1) := by decide +kernel
theorem dX8_clear_3 : decode cX8_clear 3 = .ok (.aload_n 0, 1) := by decide +kernel
theorem dX8_clear_4 : decode cX8_clear 4 = .ok (.getfield 11, 3) := by decide +kernel
theorem dX8_clear_7 : decode cX8_clear 7 = .ok (.arraylength, 1) := by decide +kernel
theorem dX8_clear_8 : decode cX8_clear 8 = .ok (.if_icmp .ge 16, 3) := by decide +kernel
theorem dX8_clear_11 : decode cX8_clear 11 = .ok (.aload_n 0, 1) := by decide +kernel
theorem dX8_clear_12 : decode cX8_clear 12 = .ok (.getfield 11, 3) := by decide +kernel
theorem dX8_clear_15 : decode cX8_clear 15 = .ok (.iload_n 1, 1) := by decide +kernel
theorem dX8_clear_16 : decode cX8_clear 16 = .ok (.aconst_null, 1) := by decide +kernel
theorem dX8_clear_17 : decode cX8_clear 17 = .ok (.aastore, 1) := by decide +kernel
theorem dX8_clear_18 : decode cX8_clear 18 = .ok (.iinc 1 1, 3) := by decide +kernel
theorem dX8_clear_21 : decode cX8_clear 21 = .ok (.goto (-19), 3) := by decide +kernel
theorem dX8_clear_24 : decode cX8_clear 24 = .ok (.iconst 0, 1) := by decide +kernel
theorem dX8_clear_25 : decode cX8_clear 25 = .ok (.istore_n 1, 1) := by decide +kernel
theorem dX8_clear_26 : decode cX8_clear 26 = .ok (.iload_n 1, 1) := by decide +kernel
theorem dX8_clear_27 : decode cX8_clear 27 = .ok (.aload_n 0, 1) := by decide +kernel
theorem dX8_clear_28 : decode cX8_clear 28 = .ok (.getfield 19, 3) := by decide +kernel
theorem dX8_clear_31 : decode cX8_clear 31 = .ok (.arraylength, 1) := by decide +kernel
theorem dX8_clear_32 : decode cX8_clear 32 = .ok (.if_icmp .ge 16, 3) := by decide +kernel
theorem dX8_clear_35 : decode cX8_clear 35 = .ok (.aload_n 0, 1) := by decide +kernel
theorem dX8_clear_36 : decode cX8_clear 36 = .ok (.getfield 19, 3) := by decide +kernel
theorem dX8_clear_39 : decode cX8_clear 39 = .ok (.iload_n 1, 1) := by decide +kernel
theorem dX8_clear_40 : decode cX8_clear 40 = .ok (.aconst_null, 1) := by decide +kernel
theorem dX8_clear_41 : decode cX8_clear 41 = .ok (.aastore, 1) := by decide +kernel
theorem dX8_clear_42 : decode cX8_clear 42 = .ok (.iinc 1 1, 3) := by decide +kernel
theorem dX8_clear_45 : decode cX8_clear 45 = .ok (.goto (-19), 3) := by decide +kernel
theorem dX8_clear_48 : decode cX8_clear 48 = .ok (.iconst 0, 1) := by decide +kernel
theorem dX8_clear_49 : decode cX8_clear 49 = .ok (.istore_n 1, 1) := by decide +kernel
theorem dX8_clear_50 : decode cX8_clear 50 = .ok (.iload_n 1, 1) := by decide +kernel
theorem dX8_clear_51 : decode cX8_clear 51 = .ok (.bipush 16, 2) := by decide +kernel
theorem dX8_clear_53 : decode cX8_clear 53 = .ok (.if_icmp .ge 16, 3) := by decide +kernel
theorem dX8_clear_56 : decode cX8_clear 56 = .ok (.aload_n 0, 1) := by decide +kernel
theorem dX8_clear_57 : decode cX8_clear 57 = .ok (.iload_n 1, 1) := by decide +kernel
theorem dX8_clear_58 : decode cX8_clear 58 = .ok (.iconst (-1), 1) := by decide +kernel
theorem dX8_clear_59 : decode cX8_clear 59 = .ok (.iconst (-1), 1) := by decide +kernel
theorem dX8_clear_60 : decode cX8_clear 60 = .ok (.invokevirtual 38, 3) := by decide +kernel
theorem dX8_clear_63 : decode cX8_clear 63 = .ok (.iinc 1 1, 3) := by decide +kernel
theorem dX8_clear_66 : decode cX8_clear 66 = .ok (.goto (-16), 3) := by decide +kernel
theorem dX8_clear_69 : decode cX8_clear 69 = .ok (.aload_n 0, 1) := by decide +kernel
theorem dX8_clear_70 : decode cX8_clear 70 = .ok (.iconst 0, 1) := by decide +kernel
theorem dX8_clear_71 : decode cX8_clear 71 = .ok (.putfield 30, 3) := by decide +kernel
theorem dX8_clear_74 : decode cX8_clear 74 = .ok (.aload_n 0, 1) := by decide +kernel
theorem dX8_clear_75 : decode cX8_clear 75 = .ok (.iconst 0, 1) := by decide +kernel
theorem dX8_clear_76 : decode cX8_clear 76 = .ok (.putfield 34, 3) := by decide +kernel
theorem dX8_clear_79 : decode cX8_clear 79 = .ok (.return_, 1) := by decide +kernel
set_option maxRecDepth 100000 in
theorem B_X8_clear_0 {d : Nat} {h : AbH} {K : Option AbV → AbH → Prop} {x0 : Nat} (hh : Vx (d + 1) m_X8_clear 0 0 2 [some (vR (some x0)), some (vI 0)] [] h K) : Vx (d + 1) m_X8_clear 0 0 0 [some (vR (some x0))] [] h K := by
  refine Vx.pad 1 [some (vR (some x0)), none] rfl ?_
  refine rr_iconst dX8_clear_0 rfl ⟨by decide, by decide⟩ ?_
  refine rr_istore_n (ls' := [some (vR (some x0)), some (vI 0)]) dX8_clear_1 rfl (by decide) (fun _ z => by cases z) rfl ?_
  exact hh
set_option maxRecDepth 100000 in
theorem B_X8_clear_2 {d : Nat} {h : AbH} {K : Option AbV → AbH → Prop} {x0 : Nat} {x1 : Int} {bc bs : Nat} (hh : wpGR h (some x0) 7 0 (fun r1 => wpNR h r1 (fun n2 => ((n2 ≤ x1 → Vx (d + 1) m_X8_clear bc bs 26 [some (vR (some x0)), some (vI 0)] [] h K) ∧ (¬ (n2 ≤ x1) → wpGR h (some x0) 7 0 (fun r3 => wpSR h r3 x1 none (fun h4 => in32 (x1 + 1) ∧ Vx (d + 1) m_X8_clear bc bs 2 [some (vR (some x0)), some (vI (x1 + 1))] [] h4 K))))))) : Vx (d + 1) m_X8_clear bc bs 2 [some (vR (some x0)), some (vI x1)] [] h K := by
  refine rr_iload_n dX8_clear_2 rfl rfl ?_
  refine rr_aload_n dX8_clear_3 rfl rfl ?_
  refine rr_getR cf_X8 (j := 0) (by decide) dX8_clear_4 rfl q_35 hh (fun r1 hh => ?_)
  refine rr_alenR dX8_clear_7 rfl hh (fun n2 hh => ?_)
  refine rr_icmp_ge (tgt := 24) dX8_clear_8 rfl (by decide) (fun hc8 => ?_) (fun hc8 => ?_)
  · have hh := hh.1 hc8
    refine rr_iconst dX8_clear_24 rfl ⟨by decide, by decide⟩ ?_
    refine rr_istore_n (ls' := [some (vR (some x0)), some (vI 0)]) dX8_clear_25 rfl (by decide) (fun _ z => by cases z) rfl ?_
    exact hh
  · have hh := hh.2 hc8
    refine rr_aload_n dX8_clear_11 rfl rfl ?_
    refine rr_getR cf_X8 (j := 0) (by decide) dX8_clear_12 rfl q_35 hh (fun r3 hh => ?_)
    refine rr_iload_n dX8_clear_15 rfl rfl ?_
    refine rr_null dX8_clear_16 rfl ?_
    refine rr_aast dX8_clear_17 rfl hh (fun h4 hh => ?_)
    obtain ⟨hz5, hh⟩ := hh
    refine rr_iinc (ls' := [some (vR (some x0)), some (vI (x1 + 1))]) dX8_clear_18 rfl rfl (by decide) (fun _ z => by cases z) hz5 rfl ?_
    refine rr_goto (pc' := 2) dX8_clear_21 (by decide) ?_
    exact hh
set_option maxRecDepth 100000 in
theorem B_X8_clear_26 {d : Nat} {h : AbH} {K : Option AbV → AbH → Prop} {x0 : Nat} {x1 : Int} {bc bs : Nat} (hh : wpGR h (some x0) 7 1 (fun r1 => wpNR h r1 (fun n2 => ((n2 ≤ x1 → Vx (d + 1) m_X8_clear bc bs 50 [some (vR (some x0)), some (vI 0)] [] h K) ∧ (¬ (n2 ≤ x1) → wpGR h (some x0) 7 1 (fun r3 => wpSR h r3 x1 none (fun h4 => in32 (x1 + 1) ∧ Vx (d + 1) m_X8_clear bc bs 26 [some (vR (some x0)), some (vI (x1 + 1))] [] h4 K))))))) : Vx (d + 1) m_X8_clear bc bs 26 [some (vR (some x0)), some (vI x1)] [] h K := by
  refine rr_iload_n dX8_clear_26 rfl rfl ?_
  refine rr_aload_n dX8_clear_27 rfl rfl ?_
  refine rr_getR cf_X8 (j := 1) (by decide) dX8_clear_28 rfl q_36 hh (fun r1 hh => ?_)
  refine rr_alenR dX8_clear_31 rfl hh (fun n2 hh => ?_)
  refine rr_icmp_ge (tgt := 48) dX8_clear_32 rfl (by decide) (fun hc32 => ?_) (fun hc32 => ?_)
  · have hh := hh.1 hc32
    refine rr_iconst dX8_clear_48 rfl ⟨by decide, by decide⟩ ?_
    refine rr_istore_n (ls' := [some (vR (some x0)), some (vI 0)]) dX8_clear_49 rfl (by decide) (fun _ z => by cases z) rfl ?_
    exact hh
  · have hh := hh.2 hc32
    refine rr_aload_n dX8_clear_35 rfl rfl ?_
    refine rr_getR cf_X8 (j := 1) (by decide) dX8_clear_36 rfl q_36 hh (fun r3 hh => ?_)
    refine rr_iload_n dX8_clear_39 rfl rfl ?_
    refine rr_null dX8_clear_40 rfl ?_
    refine rr_aast dX8_clear_41 rfl hh (fun h4 hh => ?_)
    obtain ⟨hz5, hh⟩ := hh
    refine rr_iinc (ls' := [some (vR (some x0)), some (vI (x1 + 1))]) dX8_clear_42 rfl rfl (by decide) (fun _ z => by cases z) hz5 rfl ?_
    refine rr_goto (pc' := 26) dX8_clear_45 (by decide) ?_
    exact hh
set_option maxRecDepth 100000 in
theorem B_X8_clear_50 {d : Nat} {h : AbH} {K : Option AbV → AbH → Prop} {x0 : Nat} {x1 : Int} {bc bs : Nat} (hh : ((16 ≤ x1 → wpP h (some x0) 7 4 (vI 0) (fun h1 => wpP h1 (some x0) 7 5 (vI 0) (fun h2 => K none h2))) ∧ (¬ (16 ≤ x1) → wpCV h (some x0) 7 (fun b5 => Vm d m_X8_setMeeting [vR (some b5), vI x1, vI (-1), vI (-1)] h (kV (fun h3 => in32 (x1 + 1) ∧ Vx (d + 1) m_X8_clear bc bs 50 [some (vR (some x0)), some (vI (x1 + 1))] [] h3 K)))))) : Vx (d + 1) m_X8_clear bc bs 50 [some (vR (some x0)), some (vI x1)] [] h K := by
  refine rr_iload_n dX8_clear_50 rfl rfl ?_
  refine rr_bipush dX8_clear_51 rfl ⟨by decide, by decide⟩ rfl ?_
  refine rr_icmp_ge (tgt := 69) dX8_clear_53 rfl (by decide) (fun hc53 => ?_) (fun hc53 => ?_)
  · have hh := hh.1 hc53
    refine rr_aload_n dX8_clear_69 rfl rfl ?_
    refine rr_iconst dX8_clear_70 rfl ⟨by decide, by decide⟩ ?_
    refine rr_put cf_X8 (j := 4) (by decide) dX8_clear_71 rfl q_39 rfl (fty := .int) (by decide +kernel) rfl rfl hh (fun h1 hh => ?_)
    refine rr_aload_n dX8_clear_74 rfl rfl ?_
    refine rr_iconst dX8_clear_75 rfl ⟨by decide, by decide⟩ ?_
    refine rr_put cf_X8 (j := 5) (by decide) dX8_clear_76 rfl q_42 rfl (fty := .int) (by decide +kernel) rfl rfl hh (fun h2 hh => ?_)
    exact rr_vret dX8_clear_79 rfl hh
  · have hh := hh.2 hc53
    refine rr_aload_n dX8_clear_56 rfl rfl ?_
    refine rr_iload_n dX8_clear_57 rfl rfl ?_
    refine rr_iconst dX8_clear_58 rfl ⟨by decide, by decide⟩ ?_
    refine rr_iconst dX8_clear_59 rfl ⟨by decide, by decide⟩ ?_
    refine rr_callW (bc' := bc) (bs' := bs) (q := (some x0)) (av := [vI x1, vI (-1), vI (-1)]) (st := []) mf_X8_setMeeting dX8_clear_60 rfl q_222 q_223 q_224 ⟨_, _, rfl⟩ rfl (by decide) (Nat.le_refl _) (Nat.le_refl _) hh (rr_kV fun h3 hh => ?_)
    obtain ⟨hz4, hh⟩ := hh
    refine rr_iinc (ls' := [some (vR (some x0)), some (vI (x1 + 1))]) dX8_clear_63 rfl rfl (by decide) (fun _ z => by cases z) hz4 rfl ?_
    refine rr_goto (pc' := 50) dX8_clear_66 (by decide) ?_
    exact hh
theorem dX8_lawAt_0 : decode cX8_lawAt 0 = .ok (.iload_n 1, 1) := by decide +kernel
theorem dX8_lawAt_1 : decode cX8_lawAt 1 = .ok (.iconst 0, 1) := by decide +kernel
theorem dX8_lawAt_2 : decode cX8_lawAt 2 = .ok (.aload_n 0, 1) := by decide +kernel
theorem dX8_lawAt_3 : decode cX8_lawAt 3 = .ok (.getfield 11, 3) := by decide +kernel
theorem dX8_lawAt_6 : decode cX8_lawAt 6 = .ok (.arraylength, 1) := by decide +kernel
theorem dX8_lawAt_7 : decode cX8_lawAt 7 = .ok (.iconst 1, 1) := by decide +kernel
theorem dX8_lawAt_8 : decode cX8_lawAt 8 = .ok (.isub, 1) := by decide +kernel
theorem dX8_lawAt_9 : decode cX8_lawAt 9 = .ok (.invokestatic 42, 3) := by decide +kernel
theorem dX8_lawAt_12 : decode cX8_lawAt 12 = .ok (.ifCond .eq 12, 3) := by decide +kernel
theorem dX8_lawAt_15 : decode cX8_lawAt 15 = .ok (.aload_n 0, 1) := by decide +kernel
theorem dX8_lawAt_16 : decode cX8_lawAt 16 = .ok (.getfield 11, 3) := by decide +kernel
theorem dX8_lawAt_19 : decode cX8_lawAt 19 = .ok (.iload_n 1, 1) := by decide +kernel
theorem dX8_lawAt_20 : decode cX8_lawAt 20 = .ok (.aaload, 1) := by decide +kernel
theorem dX8_lawAt_21 : decode cX8_lawAt 21 = .ok (.goto 4, 3) := by decide +kernel
theorem dX8_lawAt_24 : decode cX8_lawAt 24 = .ok (.aconst_null, 1) := by decide +kernel
theorem dX8_lawAt_25 : decode cX8_lawAt 25 = .ok (.areturn, 1) := by decide +kernel
set_option maxRecDepth 100000 in
theorem B_X8_lawAt_0 {d : Nat} {h : AbH} {K : Option AbV → AbH → Prop} {x0 : Nat} {x1 : Int} (hh : wpGR h (some x0) 7 0 (fun r1 => wpNR h r1 (fun n2 => in32 (n2 - 1) ∧ Vm d m_X9_within [vI x1, vI 0, vI (n2 - 1)] h (kI (fun n5 h4 => ((n5 = 0 → K (some (vR none)) h4) ∧ (¬ (n5 = 0) → wpGR h4 (some x0) 7 0 (fun r6 => wpLR h4 r6 x1 (fun r7 => K (some (vR r7)) h4))))))))) : Vx (d + 1) m_X8_lawAt 0 0 0 [some (vR (some x0)), some (vI x1)] [] h K := by
  refine rr_iload_n dX8_lawAt_0 rfl rfl ?_
  refine rr_iconst dX8_lawAt_1 rfl ⟨by decide, by decide⟩ ?_
  refine rr_aload_n dX8_lawAt_2 rfl rfl ?_
  refine rr_getR cf_X8 (j := 0) (by decide) dX8_lawAt_3 rfl q_35 hh (fun r1 hh => ?_)
  refine rr_alenR dX8_lawAt_6 rfl hh (fun n2 hh => ?_)
  refine rr_iconst dX8_lawAt_7 rfl ⟨by decide, by decide⟩ ?_
  obtain ⟨hz3, hh⟩ := hh
  refine rr_isub dX8_lawAt_8 rfl hz3 ?_
  refine rr_callSN (bc' := 0) (bs' := 0) (av := [vI x1, vI 0, vI (n2 - 1)]) (st := []) mf_X9_within dX8_lawAt_9 rfl qn_6 q_197 rfl (by decide) (Nat.le_refl _) (Nat.le_refl _) hh (rr_kI fun n5 h4 hh => ?_)
  refine rr_if_eq (tgt := 24) dX8_lawAt_12 rfl (by decide) (fun hc12 => ?_) (fun hc12 => ?_)
  · have hh := hh.1 hc12
    refine rr_null dX8_lawAt_24 rfl ?_
    exact rr_aret dX8_lawAt_25 rfl (Or.inl ⟨_, rfl⟩) hh
  · have hh := hh.2 hc12
    refine rr_aload_n dX8_lawAt_15 rfl rfl ?_
    refine rr_getR cf_X8 (j := 0) (by decide) dX8_lawAt_16 rfl q_35 hh (fun r6 hh => ?_)
    refine rr_iload_n dX8_lawAt_19 rfl rfl ?_
    refine rr_aald dX8_lawAt_20 rfl hh (fun r7 hh => ?_)
    refine rr_goto (pc' := 25) dX8_lawAt_21 (by decide) ?_
    exact rr_aret dX8_lawAt_25 rfl (Or.inl ⟨_, rfl⟩) hh
theorem dX8_hasLaw_0 : decode cX8_hasLaw 0 = .ok (.aload_n 0, 1) := by decide +kernel
theorem dX8_hasLaw_1 : decode cX8_hasLaw 1 = .ok (.getfield 11, 3) := by decide +kernel
theorem dX8_hasLaw_4 : decode cX8_hasLaw 4 = .ok (.astore_n 3, 1) := by decide +kernel
theorem dX8_hasLaw_5 : decode cX8_hasLaw 5 = .ok (.aload_n 3, 1) := by decide +kernel
theorem dX8_hasLaw_6 : decode cX8_hasLaw 6 = .ok (.arraylength, 1) := by decide +kernel
theorem dX8_hasLaw_7 : decode cX8_hasLaw 7 = .ok (.istore 4, 2) := by decide +kernel
theorem dX8_hasLaw_9 : decode cX8_hasLaw 9 = .ok (.iconst 0, 1) := by decide +kernel
theorem dX8_hasLaw_10 : decode cX8_hasLaw 10 = .ok (.istore 5, 2) := by decide +kernel
theorem dX8_hasLaw_12 : decode cX8_hasLaw 12 = .ok (.iload 5, 2) := by decide +kernel
theorem dX8_hasLaw_14 : decode cX8_hasLaw 14 = .ok (.iload 4, 2) := by decide +kernel
theorem dX8_hasLaw_16 : decode cX8_hasLaw 16 = .ok (.if_icmp .ge 40, 3) := by decide +kernel
theorem dX8_hasLaw_19 : decode cX8_hasLaw 19 = .ok (.aload_n 3, 1) := by decide +kernel
theorem dX8_hasLaw_20 : decode cX8_hasLaw 20 = .ok (.iload 5, 2) := by decide +kernel
theorem dX8_hasLaw_22 : decode cX8_hasLaw 22 = .ok (.aaload, 1) := by decide +kernel
theorem dX8_hasLaw_23 : decode cX8_hasLaw 23 = .ok (.astore 6, 2) := by decide +kernel
theorem dX8_hasLaw_25 : decode cX8_hasLaw 25 = .ok (.aload 6, 2) := by decide +kernel
theorem dX8_hasLaw_27 : decode cX8_hasLaw 27 = .ok (.ifnull 23, 3) := by decide +kernel
theorem dX8_hasLaw_30 : decode cX8_hasLaw 30 = .ok (.aload 6, 2) := by decide +kernel
theorem dX8_hasLaw_32 : decode cX8_hasLaw 32 = .ok (.getfield 46, 3) := by decide +kernel
theorem dX8_hasLaw_35 : decode cX8_hasLaw 35 = .ok (.iload_n 1, 1) := by decide +kernel
theorem dX8_hasLaw_36 : decode cX8_hasLaw 36 = .ok (.if_icmp .ne 14, 3) := by decide +kernel
theorem dX8_hasLaw_39 : decode cX8_hasLaw 39 = .ok (.aload 6, 2) := by decide +kernel
theorem dX8_hasLaw_41 : decode cX8_hasLaw 41 = .ok (.getfield 49, 3) := by decide +kernel
theorem dX8_hasLaw_44 : decode cX8_hasLaw 44 = .ok (.iload_n 2, 1) := by decide +kernel
theorem dX8_hasLaw_45 : decode cX8_hasLaw 45 = .ok (.if_icmp .ne 5, 3) := by decide +kernel
theorem dX8_hasLaw_48 : decode cX8_hasLaw 48 = .ok (.iconst 1, 1) := by decide +kernel
theorem dX8_hasLaw_49 : decode cX8_hasLaw 49 = .ok (.ireturn, 1) := by decide +kernel
theorem dX8_hasLaw_50 : decode cX8_hasLaw 50 = .ok (.iinc 5 1, 3) := by decide +kernel
theorem dX8_hasLaw_53 : decode cX8_hasLaw 53 = .ok (.goto (-41), 3) := by decide +kernel
theorem dX8_hasLaw_56 : decode cX8_hasLaw 56 = .ok (.iconst 0, 1) := by decide +kernel
theorem dX8_hasLaw_57 : decode cX8_hasLaw 57 = .ok (.ireturn, 1) := by decide +kernel
set_option maxRecDepth 100000 in
theorem B_X8_hasLaw_0 {d : Nat} {h : AbH} {K : Option AbV → AbH → Prop} {x0 : Nat} {x1 : Int} {x2 : Int} (hh : wpGR h (some x0) 7 0 (fun r1 => wpNR h r1 (fun n2 => Vx (d + 1) m_X8_hasLaw 0 0 12 [some (vR (some x0)), some (vI x1), some (vI x2), some (vR r1), some (vI n2), some (vI 0), none] [] h K))) : Vx (d + 1) m_X8_hasLaw 0 0 0 [some (vR (some x0)), some (vI x1), some (vI x2)] [] h K := by
  refine Vx.pad 4 [some (vR (some x0)), some (vI x1), some (vI x2), none, none, none, none] rfl ?_
  refine rr_aload_n dX8_hasLaw_0 rfl rfl ?_
  refine rr_getR cf_X8 (j := 0) (by decide) dX8_hasLaw_1 rfl q_35 hh (fun r1 hh => ?_)
  refine rr_astore_n (ls' := [some (vR (some x0)), some (vI x1), some (vI x2), some (vR r1), none, none, none]) dX8_hasLaw_4 rfl (by decide) (fun _ z => by cases z) rfl ?_
  refine rr_aload_n dX8_hasLaw_5 rfl rfl ?_
  refine rr_alenR dX8_hasLaw_6 rfl hh (fun n2 hh => ?_)
  refine rr_istore (ls' := [some (vR (some x0)), some (vI x1), some (vI x2), some (vR r1), some (vI n2), none, none]) dX8_hasLaw_7 rfl (by decide) (fun _ z => by cases z) rfl ?_
  refine rr_iconst dX8_hasLaw_9 rfl ⟨by decide, by decide⟩ ?_
  refine rr_istore (ls' := [some (vR (some x0)), some (vI x1), some (vI x2), some (vR r1), some (vI n2), some (vI 0), none]) dX8_hasLaw_10 rfl (by decide) (fun _ z => by cases z) rfl ?_
  exact hh
set_option maxRecDepth 100000 in
theorem B_X8_hasLaw_12 {d : Nat} {h : AbH} {K : Option AbV → AbH → Prop} {x0 : Nat} {x1 : Int} {x2 : Int} {x3 : Option Nat} {x4 : Int} {x5 : Int} {bc bs : Nat} (hh : ((x4 ≤ x5 → K (some (vI 0)) h) ∧ (¬ (x4 ≤ x5) → wpLR h x3 x5 (fun r1 => ((r1 = none → in32 (x5 + 1) ∧ Vx (d + 1) m_X8_hasLaw bc bs 12 [some (vR (some x0)), some (vI x1), some (vI x2), some (vR x3), some (vI x4), some (vI (x5 + 1)), none] [] h K) ∧ (¬ (r1 = none) → wpGI h r1 0 0 (fun n3 => ((n3 ≠ x1 → in32 (x5 + 1) ∧ Vx (d + 1) m_X8_hasLaw bc bs 12 [some (vR (some x0)), some (vI x1), some (vI x2), some (vR x3), some (vI x4), some (vI (x5 + 1)), none] [] h K) ∧ (¬ (n3 ≠ x1) → wpGI h r1 0 1 (fun n5 => ((n5 ≠ x2 → in32 (x5 + 1) ∧ Vx (d + 1) m_X8_hasLaw bc bs 12 [some (vR (some x0)), some (vI x1), some (vI x2), some (vR x3), some (vI x4), some (vI (x5 + 1)), none] [] h K) ∧ (¬ (n5 ≠ x2) → K (some (vI 1)) h)))))))))))) : Vx (d + 1) m_X8_hasLaw bc bs 12 [some (vR (some x0)), some (vI x1), some (vI x2), some (vR x3), some (vI x4), some (vI x5), none] [] h K := by
  refine rr_iload dX8_hasLaw_12 rfl rfl ?_
  refine rr_iload dX8_hasLaw_14 rfl rfl ?_
  refine rr_icmp_ge (tgt := 56) dX8_hasLaw_16 rfl (by decide) (fun hc16 => ?_) (fun hc16 => ?_)
  · have hh := hh.1 hc16
    refine rr_iconst dX8_hasLaw_56 rfl ⟨by decide, by decide⟩ ?_
    exact rr_zret dX8_hasLaw_57 rfl rfl hh
  · have hh := hh.2 hc16
    refine rr_aload_n dX8_hasLaw_19 rfl rfl ?_
    refine rr_iload dX8_hasLaw_20 rfl rfl ?_
    refine rr_aald dX8_hasLaw_22 rfl hh (fun r1 hh => ?_)
    refine rr_astore (ls' := [some (vR (some x0)), some (vI x1), some (vI x2), some (vR x3), some (vI x4), some (vI x5), some (vR r1)]) dX8_hasLaw_23 rfl (by decide) (fun _ z => by cases z) rfl ?_
    refine rr_aload dX8_hasLaw_25 rfl rfl ?_
    refine rr_ifnull (tgt := 50) dX8_hasLaw_27 rfl (by decide) (fun hc27 => ?_) (fun hc27 => ?_)
    · have hh := hh.1 hc27
      obtain ⟨hz2, hh⟩ := hh
      refine rr_iinc (ls' := [some (vR (some x0)), some (vI x1), some (vI x2), some (vR x3), some (vI x4), some (vI (x5 + 1)), some (vR r1)]) dX8_hasLaw_50 rfl rfl (by decide) (fun _ z => by cases z) hz2 rfl ?_
      refine rr_goto (pc' := 12) dX8_hasLaw_53 (by decide) ?_
      exact Vx.forget (ls' := [some (vR (some x0)), some (vI x1), some (vI x2), some (vR x3), some (vI x4), some (vI (x5 + 1)), none]) (And.intro rfl (And.intro rfl (And.intro rfl (And.intro rfl (And.intro rfl (And.intro rfl trivial)))))) hh
    · have hh := hh.2 hc27
      refine rr_aload dX8_hasLaw_30 rfl rfl ?_
      refine rr_getI cf_X1 (j := 0) (by decide) dX8_hasLaw_32 rfl q_334 hh (fun n3 hh => ?_)
      refine rr_iload_n dX8_hasLaw_35 rfl rfl ?_
      refine rr_icmp_ne (tgt := 50) dX8_hasLaw_36 rfl (by decide) (fun hc36 => ?_) (fun hc36 => ?_)
      · have hh := hh.1 hc36
        obtain ⟨hz4, hh⟩ := hh
        refine rr_iinc (ls' := [some (vR (some x0)), some (vI x1), some (vI x2), some (vR x3), some (vI x4), some (vI (x5 + 1)), some (vR r1)]) dX8_hasLaw_50 rfl rfl (by decide) (fun _ z => by cases z) hz4 rfl ?_
        refine rr_goto (pc' := 12) dX8_hasLaw_53 (by decide) ?_
        exact Vx.forget (ls' := [some (vR (some x0)), some (vI x1), some (vI x2), some (vR x3), some (vI x4), some (vI (x5 + 1)), none]) (And.intro rfl (And.intro rfl (And.intro rfl (And.intro rfl (And.intro rfl (And.intro rfl trivial)))))) hh
      · have hh := hh.2 hc36
        refine rr_aload dX8_hasLaw_39 rfl rfl ?_
        refine rr_getI cf_X1 (j := 1) (by decide) dX8_hasLaw_41 rfl q_339 hh (fun n5 hh => ?_)
        refine rr_iload_n dX8_hasLaw_44 rfl rfl ?_
        refine rr_icmp_ne (tgt := 50) dX8_hasLaw_45 rfl (by decide) (fun hc45 => ?_) (fun hc45 => ?_)
        · have hh := hh.1 hc45
          obtain ⟨hz6, hh⟩ := hh
          refine rr_iinc (ls' := [some (vR (some x0)), some (vI x1), some (vI x2), some (vR x3), some (vI x4), some (vI (x5 + 1)), some (vR r1)]) dX8_hasLaw_50 rfl rfl (by decide) (fun _ z => by cases z) hz6 rfl ?_
          refine rr_goto (pc' := 12) dX8_hasLaw_53 (by decide) ?_
          exact Vx.forget (ls' := [some (vR (some x0)), some (vI x1), some (vI x2), some (vR x3), some (vI x4), some (vI (x5 + 1)), none]) (And.intro rfl (And.intro rfl (And.intro rfl (And.intro rfl (And.intro rfl (And.intro rfl trivial)))))) hh
        · have hh := hh.2 hc45
          refine rr_iconst dX8_hasLaw_48 rfl ⟨by decide, by decide⟩ ?_
          exact rr_zret dX8_hasLaw_49 rfl rfl hh
theorem dX8_lawsOf_0 : decode cX8_lawsOf 0 = .ok (.iconst 0, 1) := by decide +kernel
theorem dX8_lawsOf_1 : decode cX8_lawsOf 1 = .ok (.istore_n 2, 1) := by decide +kernel
theorem dX8_lawsOf_2 : decode cX8_lawsOf 2 = .ok (.aload_n 0, 1) := by decide +kernel
theorem dX8_lawsOf_3 : decode cX8_lawsOf 3 = .ok (.getfield 11, 3) := by decide +kernel
theorem dX8_lawsOf_6 : decode cX8_lawsOf 6 = .ok (.astore_n 3, 1) := by decide +kernel
theorem dX8_lawsOf_7 : decode cX8_lawsOf 7 = .ok (.aload_n 3, 1) := by decide +kernel
theorem dX8_lawsOf_8 : decode cX8_lawsOf 8 = .ok (.arraylength, 1) := by decide +kernel
theorem dX8_lawsOf_9 : decode cX8_lawsOf 9 = .ok (.istore 4, 2) := by decide +kernel
theorem dX8_lawsOf_11 : decode cX8_lawsOf 11 = .ok (.iconst 0, 1) := by decide +kernel
theorem dX8_lawsOf_12 : decode cX8_lawsOf 12 = .ok (.istore 5, 2) := by decide +kernel
theorem dX8_lawsOf_14 : decode cX8_lawsOf 14 = .ok (.iload 5, 2) := by decide +kernel
theorem dX8_lawsOf_16 : decode cX8_lawsOf 16 = .ok (.iload 4, 2) := by decide +kernel
theorem dX8_lawsOf_18 : decode cX8_lawsOf 18 = .ok (.if_icmp .ge 32, 3) := by decide +kernel
theorem dX8_lawsOf_21 : decode cX8_lawsOf 21 = .ok (.aload_n 3, 1) := by decide +kernel
theorem dX8_lawsOf_22 : decode cX8_lawsOf 22 = .ok (.iload 5, 2) := by decide +kernel
theorem dX8_lawsOf_24 : decode cX8_lawsOf 24 = .ok (.aaload, 1) := by decide +kernel
theorem dX8_lawsOf_25 : decode cX8_lawsOf 25 = .ok (.astore 6, 2) := by decide +kernel
theorem dX8_lawsOf_27 : decode cX8_lawsOf 27 = .ok (.aload 6, 2) := by decide +kernel
theorem dX8_lawsOf_29 : decode cX8_lawsOf 29 = .ok (.ifnull 15, 3) := by decide +kernel
theorem dX8_lawsOf_32 : decode cX8_lawsOf 32 = .ok (.aload 6, 2) := by decide +kernel
theorem dX8_lawsOf_34 : decode cX8_lawsOf 34 = .ok (.getfield 46, 3) := by decide +kernel
theorem dX8_lawsOf_37 : decode cX8_lawsOf 37 = .ok (.iload_n 1, 1) := by decide +kernel
theorem dX8_lawsOf_38 : decode cX8_lawsOf 38 = .ok (.if_icmp .ne 6, 3) := by decide +kernel
theorem dX8_lawsOf_41 : decode cX8_lawsOf 41 = .ok (.iinc 2 1, 3) := by decide +kernel
theorem dX8_lawsOf_44 : decode cX8_lawsOf 44 = .ok (.iinc 5 1, 3) := by decide +kernel
theorem dX8_lawsOf_47 : decode cX8_lawsOf 47 = .ok (.goto (-33), 3) := by decide +kernel
theorem dX8_lawsOf_50 : decode cX8_lawsOf 50 = .ok (.iload_n 2, 1) := by decide +kernel
theorem dX8_lawsOf_51 : decode cX8_lawsOf 51 = .ok (.ireturn, 1) := by decide +kernel
set_option maxRecDepth 100000 in
theorem B_X8_lawsOf_0 {d : Nat} {h : AbH} {K : Option AbV → AbH → Prop} {x0 : Nat} {x1 : Int} (hh : wpGR h (some x0) 7 0 (fun r1 => wpNR h r1 (fun n2 => Vx (d + 1) m_X8_lawsOf 0 0 14 [some (vR (some x0)), some (vI x1), some (vI 0), some (vR r1), some (vI n2), some (vI 0), none] [] h K))) : Vx (d + 1) m_X8_lawsOf 0 0 0 [some (vR (some x0)), some (vI x1)] [] h K := by
  refine Vx.pad 5 [some (vR (some x0)), some (vI x1), none, none, none, none, none] rfl ?_
  refine rr_iconst dX8_lawsOf_0 rfl ⟨by decide, by decide⟩ ?_
  refine rr_istore_n (ls' := [some (vR (some x0)), some (vI x1), some (vI 0), none, none, none, none]) dX8_lawsOf_1 rfl (by decide) (fun _ z => by cases z) rfl ?_
  refine rr_aload_n dX8_lawsOf_2 rfl rfl ?_
  refine rr_getR cf_X8 (j := 0) (by decide) dX8_lawsOf_3 rfl q_35 hh (fun r1 hh => ?_)
  refine rr_astore_n (ls' := [some (vR (some x0)), some (vI x1), some (vI 0), some (vR r1), none, none, none]) dX8_lawsOf_6 rfl (by decide) (fun _ z => by cases z) rfl ?_
  refine rr_aload_n dX8_lawsOf_7 rfl rfl ?_
  refine rr_alenR dX8_lawsOf_8 rfl hh (fun n2 hh => ?_)
  refine rr_istore (ls' := [some (vR (some x0)), some (vI x1), some (vI 0), some (vR r1), some (vI n2), none, none]) dX8_lawsOf_9 rfl (by decide) (fun _ z => by cases z) rfl ?_
  refine rr_iconst dX8_lawsOf_11 rfl ⟨by decide, by decide⟩ ?_
  refine rr_istore (ls' := [some (vR (some x0)), some (vI x1), some (vI 0), some (vR r1), some (vI n2), some (vI 0), none]) dX8_lawsOf_12 rfl (by decide) (fun _ z => by cases z) rfl ?_
  exact hh
set_option maxRecDepth 100000 in
theorem B_X8_lawsOf_14 {d : Nat} {h : AbH} {K : Option AbV → AbH → Prop} {x0 : Nat} {x1 : Int} {x2 : Int} {x3 : Option Nat} {x4 : Int} {x5 : Int} {bc bs : Nat} (hh : ((x4 ≤ x5 → K (some (vI x2)) h) ∧ (¬ (x4 ≤ x5) → wpLR h x3 x5 (fun r1 => ((r1 = none → in32 (x5 + 1) ∧ Vx (d + 1) m_X8_lawsOf bc bs 14 [some (vR (some x0)), some (vI x1), some (vI x2), some (vR x3), some (vI x4), some (vI (x5 + 1)), none] [] h K) ∧ (¬ (r1 = none) → wpGI h r1 0 0 (fun n3 => ((n3 ≠ x1 → in32 (x5 + 1) ∧ Vx (d + 1) m_X8_lawsOf bc bs 14 [some (vR (some x0)), some (vI x1), some (vI x2), some (vR x3), some (vI x4), some (vI (x5 + 1)), none] [] h K) ∧ (¬ (n3 ≠ x1) → in32 (x2 + 1) ∧ in32 (x5 + 1) ∧ Vx (d + 1) m_X8_lawsOf bc bs 14 [some (vR (some x0)), some (vI x1), some (vI (x2 + 1)), some (vR x3), some (vI x4), some (vI (x5 + 1)), none] [] h K))))))))) : Vx (d + 1) m_X8_lawsOf bc bs 14 [some (vR (some x0)), some (vI x1), some (vI x2), some (vR x3), some (vI x4), some (vI x5), none] [] h K := by
  refine rr_iload dX8_lawsOf_14 rfl rfl ?_
  refine rr_iload dX8_lawsOf_16 rfl rfl ?_
  refine rr_icmp_ge (tgt := 50) dX8_lawsOf_18 rfl (by decide) (fun hc18 => ?_) (fun hc18 => ?_)
  · have hh := hh.1 hc18
    refine rr_iload_n dX8_lawsOf_50 rfl rfl ?_
    exact rr_iret dX8_lawsOf_51 rfl hh
  · have hh := hh.2 hc18
    refine rr_aload_n dX8_lawsOf_21 rfl rfl ?_
    refine rr_iload dX8_lawsOf_22 rfl rfl ?_
    refine rr_aald dX8_lawsOf_24 rfl hh (fun r1 hh => ?_)
    refine rr_astore (ls' := [some (vR (some x0)), some (vI x1), some (vI x2), some (vR x3), some (vI x4), some (vI x5), some (vR r1)]) dX8_lawsOf_25 rfl (by decide) (fun _ z => by cases z) rfl ?_
    refine rr_aload dX8_lawsOf_27 rfl rfl ?_
    refine rr_ifnull (tgt := 44) dX8_lawsOf_29 rfl (by decide) (fun hc29 => ?_) (fun hc29 => ?_)
    · have hh := hh.1 hc29
      obtain ⟨hz2, hh⟩ := hh
      refine rr_iinc (ls' := [some (vR (some x0)), some (vI x1), some (vI x2), some (vR x3), some (vI x4), some (vI (x5 + 1)), some (vR r1)]) dX8_lawsOf_44 rfl rfl (by decide) (fun _ z => by cases z) hz2 rfl ?_
      refine rr_goto (pc' := 14) dX8_lawsOf_47 (by decide) ?_
      exact Vx.forget (ls' := [some (vR (some x0)), some (vI x1), some (vI x2), some (vR x3), some (vI x4), some (vI (x5 + 1)), none]) (And.intro rfl (And.intro rfl (And.intro rfl (And.intro rfl (And.intro rfl (And.intro rfl trivial)))))) hh
    · have hh := hh.2 hc29
      refine rr_aload dX8_lawsOf_32 rfl rfl ?_
      refine rr_getI cf_X1 (j := 0) (by decide) dX8_lawsOf_34 rfl q_334 hh (fun n3 hh => ?_)
      refine rr_iload_n dX8_lawsOf_37 rfl rfl ?_
      refine rr_icmp_ne (tgt := 44) dX8_lawsOf_38 rfl (by decide) (fun hc38 => ?_) (fun hc38 => ?_)
      · have hh := hh.1 hc38
        obtain ⟨hz4, hh⟩ := hh
        refine rr_iinc (ls' := [some (vR (some x0)), some (vI x1), some (vI x2), some (vR x3), some (vI x4), some (vI (x5 + 1)), some (vR r1)]) dX8_lawsOf_44 rfl rfl (by decide) (fun _ z => by cases z) hz4 rfl ?_
        refine rr_goto (pc' := 14) dX8_lawsOf_47 (by decide) ?_
        exact Vx.forget (ls' := [some (vR (some x0)), some (vI x1), some (vI x2), some (vR x3), some (vI x4), some (vI (x5 + 1)), none]) (And.intro rfl (And.intro rfl (And.intro rfl (And.intro rfl (And.intro rfl (And.intro rfl trivial)))))) hh
      · have hh := hh.2 hc38
        obtain ⟨hz5, hh⟩ := hh
        refine rr_iinc (ls' := [some (vR (some x0)), some (vI x1), some (vI (x2 + 1)), some (vR x3), some (vI x4), some (vI x5), some (vR r1)]) dX8_lawsOf_41 rfl rfl (by decide) (fun _ z => by cases z) hz5 rfl ?_
        obtain ⟨hz6, hh⟩ := hh
        refine rr_iinc (ls' := [some (vR (some x0)), some (vI x1), some (vI (x2 + 1)), some (vR x3), some (vI x4), some (vI (x5 + 1)), some (vR r1)]) dX8_lawsOf_44 rfl rfl (by decide) (fun _ z => by cases z) hz6 rfl ?_
        refine rr_goto (pc' := 14) dX8_lawsOf_47 (by decide) ?_
        exact Vx.forget (ls' := [some (vR (some x0)), some (vI x1), some (vI (x2 + 1)), some (vR x3), some (vI x4), some (vI (x5 + 1)), none]) (And.intro rfl (And.intro rfl (And.intro rfl (And.intro rfl (And.intro rfl (And.intro rfl trivial)))))) hh
theorem dX8_addLaw_0 : decode cX8_addLaw 0 = .ok (.aload_n 0, 1) := by decide +kernel
theorem dX8_addLaw_1 : decode cX8_addLaw 1 = .ok (.getfield 30, 3) := by decide +kernel
theorem dX8_addLaw_4 : decode cX8_addLaw 4 = .ok (.iconst 0, 1) := by decide +kernel
theorem dX8_addLaw_5 : decode cX8_addLaw 5 = .ok (.aload_n 0, 1) := by decide +kernel
theorem dX8_addLaw_6 : decode cX8_addLaw 6 = .ok (.getfield 11, 3) := by decide +kernel
theorem dX8_addLaw_9 : decode cX8_addLaw 9 = .ok (.arraylength, 1) := by decide +kernel
theorem dX8_addLaw_10 : decode cX8_addLaw 10 = .ok (.iconst 1, 1) := by decide +kernel
theorem dX8_addLaw_11 : decode cX8_addLaw 11 = .ok (.isub, 1) := by decide +kernel
theorem dX8_addLaw_12 : decode cX8_addLaw 12 = .ok (.invokestatic 42, 3) := by decide +kernel
theorem dX8_addLaw_15 : decode cX8_addLaw 15 = .ok (.ifCond .ne 5, 3) := by decide +kernel
theorem dX8_addLaw_18 : decode cX8_addLaw 18 = .ok (.iconst (-1), 1) := by decide +kernel
theorem dX8_addLaw_19 : decode cX8_addLaw 19 = .ok (.ireturn, 1) := by decide +kernel
theorem dX8_addLaw_20 : decode cX8_addLaw 20 = .ok (.aload_n 0, 1) := by decide +kernel
theorem dX8_addLaw_21 : decode cX8_addLaw 21 = .ok (.getfield 30, 3) := by decide +kernel
theorem dX8_addLaw_24 : decode cX8_addLaw 24 = .ok (.istore_n 2, 1) := by decide +kernel
theorem dX8_addLaw_25 : decode cX8_addLaw 25 = .ok (.iload_n 2, 1) := by decide +kernel
theorem dX8_addLaw_26 : decode cX8_addLaw 26 = .ok (.ifCond .le 38, 3) := by decide +kernel
theorem dX8_addLaw_29 : decode cX8_addLaw 29 = .ok (.aload_n 1, 1) := by decide +kernel
theorem dX8_addLaw_30 : decode cX8_addLaw 30 = .ok (.aload_n 0, 1) := by decide +kernel
theorem dX8_addLaw_31 : decode cX8_addLaw 31 = .ok (.getfield 11, 3) := by decide +kernel
theorem dX8_addLaw_34 : decode cX8_addLaw 34 = .ok (.iload_n 2, 1) := by decide +kernel
theorem dX8_addLaw_35 : decode cX8_addLaw 35 = .ok (.iconst 1, 1) := by decide +kernel
theorem dX8_addLaw_36 : decode cX8_addLaw 36 = .ok (.isub, 1) := by decide +kernel
theorem dX8_addLaw_37 : decode cX8_addLaw 37 = .ok (.aaload, 1) := by decide +kernel
theorem dX8_addLaw_38 : decode cX8_addLaw 38 = .ok (.invokevirtual 52, 3) := by decide +kernel
theorem dX8_addLaw_41 : decode cX8_addLaw 41 = .ok (.ifCond .eq 23, 3) := by decide +kernel
theorem dX8_addLaw_44 : decode cX8_addLaw 44 = .ok (.aload_n 0, 1) := by decide +kernel
theorem dX8_addLaw_45 : decode cX8_addLaw 45 = .ok (.getfield 11, 3) := by decide +kernel
theorem dX8_addLaw_48 : decode cX8_addLaw 48 = .ok (.iload_n 2, 1) := by decide +kernel
theorem dX8_addLaw_49 : decode cX8_addLaw 49 = .ok (.aload_n 0, 1) := by decide +kernel
theorem dX8_addLaw_50 : decode cX8_addLaw 50 = .ok (.getfield 11, 3) := by decide +kernel
theorem dX8_addLaw_53 : decode cX8_addLaw 53 = .ok (.iload_n 2, 1) := by decide +kernel
theorem dX8_addLaw_54 : decode cX8_addLaw 54 = .ok (.iconst 1, 1) := by decide +kernel
theorem dX8_addLaw_55 : decode cX8_addLaw 55 = .ok (.isub, 1) := by decide +kernel
theorem dX8_addLaw_56 : decode cX8_addLaw 56 = .ok (.aaload, 1) := by decide +kernel
theorem dX8_addLaw_57 : decode cX8_addLaw 57 = .ok (.aastore, 1) := by decide +kernel
theorem dX8_addLaw_58 : decode cX8_addLaw 58 = .ok (.iinc 2 (-1), 3) := by decide +kernel
theorem dX8_addLaw_61 : decode cX8_addLaw 61 = .ok (.goto (-36), 3) := by decide +kernel
theorem dX8_addLaw_64 : decode cX8_addLaw 64 = .ok (.aload_n 0, 1) := by decide +kernel
theorem dX8_addLaw_65 : decode cX8_addLaw 65 = .ok (.getfield 11, 3) := by decide +kernel
theorem dX8_addLaw_68 : decode cX8_addLaw 68 = .ok (.iload_n 2, 1) := by decide +kernel
theorem dX8_addLaw_69 : decode cX8_addLaw 69 = .ok (.aload_n 1, 1) := by decide +kernel
theorem dX8_addLaw_70 : decode cX8_addLaw 70 = .ok (.aastore, 1) := by decide +kernel
theorem dX8_addLaw_71 : decode cX8_addLaw 71 = .ok (.aload_n 0, 1) := by decide +kernel
theorem dX8_addLaw_72 : decode cX8_addLaw 72 = .ok (.dup, 1) := by decide +kernel
theorem dX8_addLaw_73 : decode cX8_addLaw 73 = .ok (.getfield 30, 3) := by decide +kernel
theorem dX8_addLaw_76 : decode cX8_addLaw 76 = .ok (.iconst 1, 1) := by decide +kernel
theorem dX8_addLaw_77 : decode cX8_addLaw 77 = .ok (.iadd, 1) := by decide +kernel
theorem dX8_addLaw_78 : decode cX8_addLaw 78 = .ok (.putfield 30, 3) := by decide +kernel
theorem dX8_addLaw_81 : decode cX8_addLaw 81 = .ok (.iload_n 2, 1) := by decide +kernel
theorem dX8_addLaw_82 : decode cX8_addLaw 82 = .ok (.ireturn, 1) := by decide +kernel
set_option maxRecDepth 100000 in
theorem B_X8_addLaw_0 {d : Nat} {h : AbH} {K : Option AbV → AbH → Prop} {x0 : Nat} {x1 : Option Nat} (hh : wpGI h (some x0) 7 4 (fun n1 => wpGR h (some x0) 7 0 (fun r2 => wpNR h r2 (fun n3 => in32 (n3 - 1) ∧ Vm d m_X9_within [vI n1, vI 0, vI (n3 - 1)] h (kI (fun n6 h5 => ((n6 ≠ 0 → wpGI h5 (some x0) 7 4 (fun n7 => Vx (d + 1) m_X8_addLaw 0 0 25 [some (vR (some x0)), some (vR x1), some (vI n7)] [] h5 K)) ∧ (¬ (n6 ≠ 0) → K (some (vI (-1))) h5)))))))) : Vx (d + 1) m_X8_addLaw 0 0 0 [some (vR (some x0)), some (vR x1)] [] h K := by
  refine Vx.pad 1 [some (vR (some x0)), some (vR x1), none] rfl ?_
  refine rr_aload_n dX8_addLaw_0 rfl rfl ?_
  refine rr_getI cf_X8 (j := 4) (by decide) dX8_addLaw_1 rfl q_39 hh (fun n1 hh => ?_)
  refine rr_iconst dX8_addLaw_4 rfl ⟨by decide, by decide⟩ ?_
  refine rr_aload_n dX8_addLaw_5 rfl rfl ?_
  refine rr_getR cf_X8 (j := 0) (by decide) dX8_addLaw_6 rfl q_35 hh (fun r2 hh => ?_)
  refine rr_alenR dX8_addLaw_9 rfl hh (fun n3 hh => ?_)
  refine rr_iconst dX8_addLaw_10 rfl ⟨by decide, by decide⟩ ?_
  obtain ⟨hz4, hh⟩ := hh
  refine rr_isub dX8_addLaw_11 rfl hz4 ?_
  refine rr_callSN (bc' := 0) (bs' := 0) (av := [vI n1, vI 0, vI (n3 - 1)]) (st := []) mf_X9_within dX8_addLaw_12 rfl qn_6 q_197 rfl (by decide) (Nat.le_refl _) (Nat.le_refl _) hh (rr_kI fun n6 h5 hh => ?_)
  refine rr_if_ne (tgt := 20) dX8_addLaw_15 rfl (by decide) (fun hc15 => ?_) (fun hc15 => ?_)
  · have hh := hh.1 hc15
    refine rr_aload_n dX8_addLaw_20 rfl rfl ?_
    refine rr_getI cf_X8 (j := 4) (by decide) dX8_addLaw_21 rfl q_39 hh (fun n7 hh => ?_)
    refine rr_istore_n (ls' := [some (vR (some x0)), some (vR x1), some (vI n7)]) dX8_addLaw_24 rfl (by decide) (fun _ z => by cases z) rfl ?_
    exact hh
  · have hh := hh.2 hc15
    refine rr_iconst dX8_addLaw_18 rfl ⟨by decide, by decide⟩ ?_
    exact rr_iret dX8_addLaw_19 rfl hh
set_option maxRecDepth 100000 in
theorem B_X8_addLaw_25 {d : Nat} {h : AbH} {K : Option AbV → AbH → Prop} {x0 : Nat} {x1 : Option Nat} {x2 : Int} {bc bs : Nat} (hh : ((x2 ≤ 0 → wpGR h (some x0) 7 0 (fun r1 => wpSR h r1 x2 x1 (fun h2 => wpGI h2 (some x0) 7 4 (fun n3 => in32 (n3 + 1) ∧ wpP h2 (some x0) 7 4 (vI (n3 + 1)) (fun h5 => K (some (vI x2)) h5))))) ∧ (¬ (x2 ≤ 0) → wpGR h (some x0) 7 0 (fun r6 => in32 (x2 - 1) ∧ wpLR h r6 (x2 - 1) (fun r8 => wpCV h x1 0 (fun b22 => Vm d m_X1_isBefore [vR (some b22), vR r8] h (kI (fun n10 h9 => ((n10 = 0 → wpGR h9 (some x0) 7 0 (fun r11 => wpSR h9 r11 x2 x1 (fun h12 => wpGI h12 (some x0) 7 4 (fun n13 => in32 (n13 + 1) ∧ wpP h12 (some x0) 7 4 (vI (n13 + 1)) (fun h15 => K (some (vI x2)) h15))))) ∧ (¬ (n10 = 0) → wpGR h9 (some x0) 7 0 (fun r16 => wpGR h9 (some x0) 7 0 (fun r17 => in32 (x2 - 1) ∧ wpLR h9 r17 (x2 - 1) (fun r19 => wpSR h9 r16 x2 r19 (fun h20 => in32 (x2 + (-1)) ∧ Vx (d + 1) m_X8_addLaw bc bs 25 [some (vR (some x0)), some (vR x1), some (vI (x2 + (-1)))] [] h20 K)))))))))))))) : Vx (d + 1) m_X8_addLaw bc bs 25 [some (vR (some x0)), some (vR x1), some (vI x2)] [] h K := by
  refine rr_iload_n dX8_addLaw_25 rfl rfl ?_
  refine rr_if_le (tgt := 64) dX8_addLaw_26 rfl (by decide) (fun hc26 => ?_) (fun hc26 => ?_)
  · have hh := hh.1 hc26
    refine rr_aload_n dX8_addLaw_64 rfl rfl ?_
    refine rr_getR cf_X8 (j := 0) (by decide) dX8_addLaw_65 rfl q_35 hh (fun r1 hh => ?_)
    refine rr_iload_n dX8_addLaw_68 rfl rfl ?_
    refine rr_aload_n dX8_addLaw_69 rfl rfl ?_
    refine rr_aast dX8_addLaw_70 rfl hh (fun h2 hh => ?_)
    refine rr_aload_n dX8_addLaw_71 rfl rfl ?_
    refine rr_dup dX8_addLaw_72 rfl rfl ?_
    refine rr_getI cf_X8 (j := 4) (by decide) dX8_addLaw_73 rfl q_39 hh (fun n3 hh => ?_)
    refine rr_iconst dX8_addLaw_76 rfl ⟨by decide, by decide⟩ ?_
    obtain ⟨hz4, hh⟩ := hh
    refine rr_iadd dX8_addLaw_77 rfl hz4 ?_
    refine rr_put cf_X8 (j := 4) (by decide) dX8_addLaw_78 rfl q_39 rfl (fty := .int) (by decide +kernel) rfl rfl hh (fun h5 hh => ?_)
    refine rr_iload_n dX8_addLaw_81 rfl rfl ?_
    exact rr_iret dX8_addLaw_82 rfl hh
  · have hh := hh.2 hc26
    refine rr_aload_n dX8_addLaw_29 rfl rfl ?_
    refine rr_aload_n dX8_addLaw_30 rfl rfl ?_
    refine rr_getR cf_X8 (j := 0) (by decide) dX8_addLaw_31 rfl q_35 hh (fun r6 hh => ?_)
    refine rr_iload_n dX8_addLaw_34 rfl rfl ?_
    refine rr_iconst dX8_addLaw_35 rfl ⟨by decide, by decide⟩ ?_
    obtain ⟨hz7, hh⟩ := hh
    refine rr_isub dX8_addLaw_36 rfl hz7 ?_
    refine rr_aald dX8_addLaw_37 rfl hh (fun r8 hh => ?_)
    refine rr_callW (bc' := bc) (bs' := bs) (q := x1) (av := [vR r8]) (st := []) mf_X1_isBefore dX8_addLaw_38 rfl q_367 q_368 q_369 ⟨_, _, rfl⟩ rfl (by decide) (Nat.le_refl _) (Nat.le_refl _) hh (rr_kI fun n10 h9 hh => ?_)
    refine rr_if_eq (tgt := 64) dX8_addLaw_41 rfl (by decide) (fun hc41 => ?_) (fun hc41 => ?_)
    · have hh := hh.1 hc41
      refine rr_aload_n dX8_addLaw_64 rfl rfl ?_
      refine rr_getR cf_X8 (j := 0) (by decide) dX8_addLaw_65 rfl q_35 hh (fun r11 hh => ?_)
      refine rr_iload_n dX8_addLaw_68 rfl rfl ?_
      refine rr_aload_n dX8_addLaw_69 rfl rfl ?_
      refine rr_aast dX8_addLaw_70 rfl hh (fun h12 hh => ?_)
      refine rr_aload_n dX8_addLaw_71 rfl rfl ?_
      refine rr_dup dX8_addLaw_72 rfl rfl ?_
      refine rr_getI cf_X8 (j := 4) (by decide) dX8_addLaw_73 rfl q_39 hh (fun n13 hh => ?_)
      refine rr_iconst dX8_addLaw_76 rfl ⟨by decide, by decide⟩ ?_
      obtain ⟨hz14, hh⟩ := hh
      refine rr_iadd dX8_addLaw_77 rfl hz14 ?_
      refine rr_put cf_X8 (j := 4) (by decide) dX8_addLaw_78 rfl q_39 rfl (fty := .int) (by decide +kernel) rfl rfl hh (fun h15 hh => ?_)
      refine rr_iload_n dX8_addLaw_81 rfl rfl ?_
      exact rr_iret dX8_addLaw_82 rfl hh
    · have hh := hh.2 hc41
      refine rr_aload_n dX8_addLaw_44 rfl rfl ?_
      refine rr_getR cf_X8 (j := 0) (by decide) dX8_addLaw_45 rfl q_35 hh (fun r16 hh => ?_)
      refine rr_iload_n dX8_addLaw_48 rfl rfl ?_
      refine rr_aload_n dX8_addLaw_49 rfl rfl ?_
      refine rr_getR cf_X8 (j := 0) (by decide) dX8_addLaw_50 rfl q_35 hh (fun r17 hh => ?_)
      refine rr_iload_n dX8_addLaw_53 rfl rfl ?_
      refine rr_iconst dX8_addLaw_54 rfl ⟨by decide, by decide⟩ ?_
      obtain ⟨hz18, hh⟩ := hh
      refine rr_isub dX8_addLaw_55 rfl hz18 ?_
      refine rr_aald dX8_addLaw_56 rfl hh (fun r19 hh => ?_)
      refine rr_aast dX8_addLaw_57 rfl hh (fun h20 hh => ?_)
      obtain ⟨hz21, hh⟩ := hh
      refine rr_iinc (ls' := [some (vR (some x0)), some (vR x1), some (vI (x2 + (-1)))]) dX8_addLaw_58 rfl rfl (by decide) (fun _ z => by cases z) hz21 rfl ?_
      refine rr_goto (pc' := 25) dX8_addLaw_61 (by decide) ?_
      exact hh
theorem dX8_removeLaw_0 : decode cX8_removeLaw 0 = .ok (.aload_n 0, 1) := by decide +kernel
theorem dX8_removeLaw_1 : decode cX8_removeLaw 1 = .ok (.iload_n 1, 1) := by decide +kernel
theorem dX8_removeLaw_2 : decode cX8_removeLaw 2 = .ok (.invokevirtual 56, 3) := by decide +kernel
theorem dX8_removeLaw_5 : decode cX8_removeLaw 5 = .ok (.ifnonnull 4, 3) := by decide +kernel
theorem dX8_removeLaw_8 : decode cX8_removeLaw 8 = .ok (.return_, 1) := by decide +kernel
theorem dX8_removeLaw_9 : decode cX8_removeLaw 9 = .ok (.iload_n 1, 1) := by decide +kernel
theorem dX8_removeLaw_10 : decode cX8_removeLaw 10 = .ok (.istore_n 2, 1) := by decide +kernel
theorem dX8_removeLaw_11 : decode cX8_removeLaw 11 = .ok (.iload_n 2, 1) := by decide +kernel
theorem dX8_removeLaw_12 : decode cX8_removeLaw 12 = .ok (.aload_n 0, 1) := by decide +kernel
theorem dX8_removeLaw_13 : decode cX8_removeLaw 13 = .ok (.getfield 11, 3) := by decide +kernel
theorem dX8_removeLaw_16 : decode cX8_removeLaw 16 = .ok (.arraylength, 1) := by decide +kernel
theorem dX8_removeLaw_17 : decode cX8_removeLaw 17 = .ok (.if_icmp .ge 22, 3) := by decide +kernel
theorem dX8_removeLaw_20 : decode cX8_removeLaw 20 = .ok (.aload_n 0, 1) := by decide +kernel
theorem dX8_removeLaw_21 : decode cX8_removeLaw 21 = .ok (.getfield 11, 3) := by decide +kernel
theorem dX8_removeLaw_24 : decode cX8_removeLaw 24 = .ok (.iload_n 2, 1) := by decide +kernel
theorem dX8_removeLaw_25 : decode cX8_removeLaw 25 = .ok (.aload_n 0, 1) := by decide +kernel
theorem dX8_removeLaw_26 : decode cX8_removeLaw 26 = .ok (.iload_n 2, 1) := by decide +kernel
theorem dX8_removeLaw_27 : decode cX8_removeLaw 27 = .ok (.iconst 1, 1) := by decide +kernel
theorem dX8_removeLaw_28 : decode cX8_removeLaw 28 = .ok (.iadd, 1) := by decide +kernel
theorem dX8_removeLaw_29 : decode cX8_removeLaw 29 = .ok (.invokevirtual 56, 3) := by decide +kernel
theorem dX8_removeLaw_32 : decode cX8_removeLaw 32 = .ok (.aastore, 1) := by decide +kernel
theorem dX8_removeLaw_33 : decode cX8_removeLaw 33 = .ok (.iinc 2 1, 3) := by decide +kernel
theorem dX8_removeLaw_36 : decode cX8_removeLaw 36 = .ok (.goto (-25), 3) := by decide +kernel
theorem dX8_removeLaw_39 : decode cX8_removeLaw 39 = .ok (.aload_n 0, 1) := by decide +kernel
theorem dX8_removeLaw_40 : decode cX8_removeLaw 40 = .ok (.dup, 1) := by decide +kernel
theorem dX8_removeLaw_41 : decode cX8_removeLaw 41 = .ok (.getfield 30, 3) := by decide +kernel
theorem dX8_removeLaw_44 : decode cX8_removeLaw 44 = .ok (.iconst 1, 1) := by decide +kernel
theorem dX8_removeLaw_45 : decode cX8_removeLaw 45 = .ok (.isub, 1) := by decide +kernel
theorem dX8_removeLaw_46 : decode cX8_removeLaw 46 = .ok (.putfield 30, 3) := by decide +kernel
theorem dX8_removeLaw_49 : decode cX8_removeLaw 49 = .ok (.return_, 1) := by decide +kernel
set_option maxRecDepth 100000 in
theorem B_X8_removeLaw_0 {d : Nat} {h : AbH} {K : Option AbV → AbH → Prop} {x0 : Nat} {x1 : Int} (hh : wpCV h (some x0) 7 (fun b3 => Vm d m_X8_lawAt [vR (some b3), vI x1] h (kR (fun r2 h1 => ((r2 ≠ none → Vx (d + 1) m_X8_removeLaw 0 0 11 [some (vR (some x0)), some (vI x1), some (vI x1)] [] h1 K) ∧ (¬ (r2 ≠ none) → K none h1)))))) : Vx (d + 1) m_X8_removeLaw 0 0 0 [some (vR (some x0)), some (vI x1)] [] h K := by
  refine Vx.pad 1 [some (vR (some x0)), some (vI x1), none] rfl ?_
  refine rr_aload_n dX8_removeLaw_0 rfl rfl ?_
  refine rr_iload_n dX8_removeLaw_1 rfl rfl ?_
  refine rr_callW (bc' := 0) (bs' := 0) (q := (some x0)) (av := [vI x1]) (st := []) mf_X8_lawAt dX8_removeLaw_2 rfl q_476 q_469 q_470 ⟨_, _, rfl⟩ rfl (by decide) (Nat.le_refl _) (Nat.le_refl _) hh (rr_kR fun r2 h1 hh => ?_)
  refine rr_ifnonnull (tgt := 9) dX8_removeLaw_5 rfl (by decide) (fun hc5 => ?_) (fun hc5 => ?_)
  · have hh := hh.1 hc5
    refine rr_iload_n dX8_removeLaw_9 rfl rfl ?_
    refine rr_istore_n (ls' := [some (vR (some x0)), some (vI x1), some (vI x1)]) dX8_removeLaw_10 rfl (by decide) (fun _ z => by cases z) rfl ?_
    exact hh
  · have hh := hh.2 hc5
    exact rr_vret dX8_removeLaw_8 rfl hh
set_option maxRecDepth 100000 in
theorem B_X8_removeLaw_11 {d : Nat} {h : AbH} {K : Option AbV → AbH → Prop} {x0 : Nat} {x1 : Int} {x2 : Int} {bc bs : Nat} (hh : wpGR h (some x0) 7 0 (fun r1 => wpNR h r1 (fun n2 => ((n2 ≤ x2 → wpGI h (some x0) 7 4 (fun n3 => in32 (n3 - 1) ∧ wpP h (some x0) 7 4 (vI (n3 - 1)) (fun h5 => K none h5))) ∧ (¬ (n2 ≤ x2) → wpGR h (some x0) 7 0 (fun r6 => in32 (x2 + 1) ∧ wpCV h (some x0) 7 (fun b12 => Vm d m_X8_lawAt [vR (some b12), vI (x2 + 1)] h (kR (fun r9 h8 => wpSR h8 r6 x2 r9 (fun h10 => in32 (x2 + 1) ∧ Vx (d + 1) m_X8_removeLaw bc bs 11 [some (vR (some x0)), some (vI x1), some (vI (x2 + 1))] [] h10 K)))))))))) : Vx (d + 1) m_X8_removeLaw bc bs 11 [some (vR (some x0)), some (vI x1), some (vI x2)] [] h K := by
  refine rr_iload_n dX8_removeLaw_11 rfl rfl ?_
  refine rr_aload_n dX8_removeLaw_12 rfl rfl ?_
  refine rr_getR cf_X8 (j := 0) (by decide) dX8_removeLaw_13 rfl q_35 hh (fun r1 hh => ?_)
  refine rr_alenR dX8_removeLaw_16 rfl hh (fun n2 hh => ?_)
  refine rr_icmp_ge (tgt := 39) dX8_removeLaw_17 rfl (by decide) (fun hc17 => ?_) (fun hc17 => ?_)
  · have hh := hh.1 hc17
    refine rr_aload_n dX8_removeLaw_39 rfl rfl ?_
    refine rr_dup dX8_removeLaw_40 rfl rfl ?_
    refine rr_getI cf_X8 (j := 4) (by decide) dX8_removeLaw_41 rfl q_39 hh (fun n3 hh => ?_)
    refine rr_iconst dX8_removeLaw_44 rfl ⟨by decide, by decide⟩ ?_
    obtain ⟨hz4, hh⟩ := hh
    refine rr_isub dX8_removeLaw_45 rfl hz4 ?_
    refine rr_put cf_X8 (j := 4) (by decide) dX8_removeLaw_46 rfl q_39 rfl (fty := .int) (by decide +kernel) rfl rfl hh (fun h5 hh => ?_)
    exact rr_vret dX8_removeLaw_49 rfl hh
  · have hh := hh.2 hc17
    refine rr_aload_n dX8_removeLaw_20 rfl rfl ?_
    refine rr_getR cf_X8 (j := 0) (by decide) dX8_removeLaw_21 rfl q_35 hh (fun r6 hh => ?_)
    refine rr_iload_n dX8_removeLaw_24 rfl rfl ?_
    refine rr_aload_n dX8_removeLaw_25 rfl rfl ?_
    refine rr_iload_n dX8_removeLaw_26 rfl rfl ?_
    refine rr_iconst dX8_removeLaw_27 rfl ⟨by decide, by decide⟩ ?_
    obtain ⟨hz7, hh⟩ := hh
    refine rr_iadd dX8_removeLaw_28 rfl hz7 ?_
    refine rr_callW (bc' := bc) (bs' := bs) (q := (some x0)) (av := [vI (x2 + 1)]) (st := [vI x2, vR r6]) mf_X8_lawAt dX8_removeLaw_29 rfl q_476 q_469 q_470 ⟨_, _, rfl⟩ rfl (cs_le _ (Nat.le_of_ble_eq_true rfl)) (Nat.le_refl _) (Nat.le_refl _) hh (rr_kR fun r9 h8 hh => ?_)
    refine rr_aast dX8_removeLaw_32 rfl hh (fun h10 hh => ?_)
    obtain ⟨hz11, hh⟩ := hh
    refine rr_iinc (ls' := [some (vR (some x0)), some (vI x1), some (vI (x2 + 1))]) dX8_removeLaw_33 rfl rfl (by decide) (fun _ z => by cases z) hz11 rfl ?_
    refine rr_goto (pc' := 11) dX8_removeLaw_36 (by decide) ?_
    exact hh
theorem dX8_firstOf_0 : decode cX8_firstOf 0 = .ok (.iload_n 1, 1) := by decide +kernel
theorem dX8_firstOf_1 : decode cX8_firstOf 1 = .ok (.iconst 0, 1) := by decide +kernel
theorem dX8_firstOf_2 : decode cX8_firstOf 2 = .ok (.aload_n 0, 1) := by decide +kernel
theorem dX8_firstOf_3 : decode cX8_firstOf 3 = .ok (.getfield 23, 3) := by decide +kernel
theorem dX8_firstOf_6 : decode cX8_firstOf 6 = .ok (.arraylength, 1) := by decide +kernel
theorem dX8_firstOf_7 : decode cX8_firstOf 7 = .ok (.iconst 1, 1) := by decide +kernel
theorem dX8_firstOf_8 : decode cX8_firstOf 8 = .ok (.isub, 1) := by decide +kernel
theorem dX8_firstOf_9 : decode cX8_firstOf 9 = .ok (.invokestatic 42, 3) := by decide +kernel
theorem dX8_firstOf_12 : decode cX8_firstOf 12 = .ok (.ifCond .eq 12, 3) := by decide +kernel
theorem dX8_firstOf_15 : decode cX8_firstOf 15 = .ok (.aload_n 0, 1) := by decide +kernel
theorem dX8_firstOf_16 : decode cX8_firstOf 16 = .ok (.getfield 23, 3) := by decide +kernel
theorem dX8_firstOf_19 : decode cX8_firstOf 19 = .ok (.iload_n 1, 1) := by decide +kernel
theorem dX8_firstOf_20 : decode cX8_firstOf 20 = .ok (.iaload, 1) := by decide +kernel
theorem dX8_firstOf_21 : decode cX8_firstOf 21 = .ok (.goto 4, 3) := by decide +kernel
theorem dX8_firstOf_24 : decode cX8_firstOf 24 = .ok (.iconst (-1), 1) := by decide +kernel
theorem dX8_firstOf_25 : decode cX8_firstOf 25 = .ok (.ireturn, 1) := by decide +kernel
set_option maxRecDepth 100000 in
theorem B_X8_firstOf_0 {d : Nat} {h : AbH} {K : Option AbV → AbH → Prop} {x0 : Nat} {x1 : Int} (hh : wpGR h (some x0) 7 2 (fun r1 => wpNI h r1 (fun n2 => in32 (n2 - 1) ∧ Vm d m_X9_within [vI x1, vI 0, vI (n2 - 1)] h (kI (fun n5 h4 => ((n5 = 0 → K (some (vI (-1))) h4) ∧ (¬ (n5 = 0) → wpGR h4 (some x0) 7 2 (fun r6 => wpLI h4 r6 x1 (fun n7 => K (some (vI n7)) h4))))))))) : Vx (d + 1) m_X8_firstOf 0 0 0 [some (vR (some x0)), some (vI x1)] [] h K := by
  refine rr_iload_n dX8_firstOf_0 rfl rfl ?_
  refine rr_iconst dX8_firstOf_1 rfl ⟨by decide, by decide⟩ ?_
  refine rr_aload_n dX8_firstOf_2 rfl rfl ?_
  refine rr_getR cf_X8 (j := 2) (by decide) dX8_firstOf_3 rfl q_37 hh (fun r1 hh => ?_)
  refine rr_alenI dX8_firstOf_6 rfl hh (fun n2 hh => ?_)
  refine rr_iconst dX8_firstOf_7 rfl ⟨by decide, by decide⟩ ?_
  obtain ⟨hz3, hh⟩ := hh
  refine rr_isub dX8_firstOf_8 rfl hz3 ?_
  refine rr_callSN (bc' := 0) (bs' := 0) (av := [vI x1, vI 0, vI (n2 - 1)]) (st := []) mf_X9_within dX8_firstOf_9 rfl qn_6 q_197 rfl (by decide) (Nat.le_refl _) (Nat.le_refl _) hh (rr_kI fun n5 h4 hh => ?_)
  refine rr_if_eq (tgt := 24) dX8_firstOf_12 rfl (by decide) (fun hc12 => ?_) (fun hc12 => ?_)
  · have hh := hh.1 hc12
    refine rr_iconst dX8_firstOf_24 rfl ⟨by decide, by decide⟩ ?_
    exact rr_iret dX8_firstOf_25 rfl hh
  · have hh := hh.2 hc12
    refine rr_aload_n dX8_firstOf_15 rfl rfl ?_
    refine rr_getR cf_X8 (j := 2) (by decide) dX8_firstOf_16 rfl q_37 hh (fun r6 hh => ?_)
    refine rr_iload_n dX8_firstOf_19 rfl rfl ?_
    refine rr_iald dX8_firstOf_20 rfl hh (fun n7 hh => ?_)
    refine rr_goto (pc' := 25) dX8_firstOf_21 (by decide) ?_
    exact rr_iret dX8_firstOf_25 rfl hh
theorem dX8_lastOf_0 : decode cX8_lastOf 0 = .ok (.iload_n 1, 1) := by decide +kernel
theorem dX8_lastOf_1 : decode cX8_lastOf 1 = .ok (.iconst 0, 1) := by decide +kernel
theorem dX8_lastOf_2 : decode cX8_lastOf 2 = .ok (.aload_n 0, 1) := by decide +kernel
theorem dX8_lastOf_3 : decode cX8_lastOf 3 = .ok (.getfield 27, 3) := by decide +kernel
theorem dX8_lastOf_6 : decode cX8_lastOf 6 = .ok (.arraylength, 1) := by decide +kernel
theorem dX8_lastOf_7 : decode cX8_lastOf 7 = .ok (.iconst 1, 1) := by decide +kernel
theorem dX8_lastOf_8 : decode cX8_lastOf 8 = .ok (.isub, 1) := by decide +kernel
theorem dX8_lastOf_9 : decode cX8_lastOf 9 = .ok (.invokestatic 42, 3) := by decide +kernel
theorem dX8_lastOf_12 : decode cX8_lastOf 12 = .ok (.ifCond .eq 12, 3) := by decide +kernel
theorem dX8_lastOf_15 : decode cX8_lastOf 15 = .ok (.aload_n 0, 1) := by decide +kernel
theorem dX8_lastOf_16 : decode cX8_lastOf 16 = .ok (.getfield 27, 3) := by decide +kernel
theorem dX8_lastOf_19 : decode cX8_lastOf 19 = .ok (.iload_n 1, 1) := by decide +kernel
theorem dX8_lastOf_20 : decode cX8_lastOf 20 = .ok (.iaload, 1) := by decide +kernel
theorem dX8_lastOf_21 : decode cX8_lastOf 21 = .ok (.goto 4, 3) := by decide +kernel
theorem dX8_lastOf_24 : decode cX8_lastOf 24 = .ok (.iconst (-1), 1) := by decide +kernel
theorem dX8_lastOf_25 : decode cX8_lastOf 25 = .ok (.ireturn, 1) := by decide +kernel
set_option maxRecDepth 100000 in
theorem B_X8_lastOf_0 {d : Nat} {h : AbH} {K : Option AbV → AbH → Prop} {x0 : Nat} {x1 : Int} (hh : wpGR h (some x0) 7 3 (fun r1 => wpNI h r1 (fun n2 => in32 (n2 - 1) ∧ Vm d m_X9_within [vI x1, vI 0, vI (n2 - 1)] h (kI (fun n5 h4 => ((n5 = 0 → K (some (vI (-1))) h4) ∧ (¬ (n5 = 0) → wpGR h4 (some x0) 7 3 (fun r6 => wpLI h4 r6 x1 (fun n7 => K (some (vI n7)) h4))))))))) : Vx (d + 1) m_X8_lastOf 0 0 0 [some (vR (some x0)), some (vI x1)] [] h K := by
  refine rr_iload_n dX8_lastOf_0 rfl rfl ?_
  refine rr_iconst dX8_lastOf_1 rfl ⟨by decide, by decide⟩ ?_
  refine rr_aload_n dX8_lastOf_2 rfl rfl ?_
  refine rr_getR cf_X8 (j := 3) (by decide) dX8_lastOf_3 rfl q_38 hh (fun r1 hh => ?_)
  refine rr_alenI dX8_lastOf_6 rfl hh (fun n2 hh => ?_)
  refine rr_iconst dX8_lastOf_7 rfl ⟨by decide, by decide⟩ ?_
  obtain ⟨hz3, hh⟩ := hh
  refine rr_isub dX8_lastOf_8 rfl hz3 ?_
  refine rr_callSN (bc' := 0) (bs' := 0) (av := [vI x1, vI 0, vI (n2 - 1)]) (st := []) mf_X9_within dX8_lastOf_9 rfl qn_6 q_197 rfl (by decide) (Nat.le_refl _) (Nat.le_refl _) hh (rr_kI fun n5 h4 hh => ?_)
  refine rr_if_eq (tgt := 24) dX8_lastOf_12 rfl (by decide) (fun hc12 => ?_) (fun hc12 => ?_)
  · have hh := hh.1 hc12
    refine rr_iconst dX8_lastOf_24 rfl ⟨by decide, by decide⟩ ?_
    exact rr_iret dX8_lastOf_25 rfl hh
  · have hh := hh.2 hc12
    refine rr_aload_n dX8_lastOf_15 rfl rfl ?_
    refine rr_getR cf_X8 (j := 3) (by decide) dX8_lastOf_16 rfl q_38 hh (fun r6 hh => ?_)
    refine rr_iload_n dX8_lastOf_19 rfl rfl ?_
    refine rr_iald dX8_lastOf_20 rfl hh (fun n7 hh => ?_)
    refine rr_goto (pc' := 25) dX8_lastOf_21 (by decide) ?_
    exact rr_iret dX8_lastOf_25 rfl hh
theorem dX8_setMeeting_0 : decode cX8_setMeeting 0 = .ok (.iload_n 1, 1) := by decide +kernel
theorem dX8_setMeeting_1 : decode cX8_setMeeting 1 = .ok (.iconst 0, 1) := by decide +kernel
theorem dX8_setMeeting_2 : decode cX8_setMeeting 2 = .ok (.bipush 15, 2) := by decide +kernel
theorem dX8_setMeeting_4 : decode cX8_setMeeting 4 = .ok (.invokestatic 42, 3) := by decide +kernel
theorem dX8_setMeeting_7 : decode cX8_setMeeting 7 = .ok (.ifCond .ne 4, 3) := by decide +kernel
theorem dX8_setMeeting_10 : decode cX8_setMeeting 10 = .ok (.return_, 1) := by decide +kernel
theorem dX8_setMeeting_11 : decode cX8_setMeeting 11 = .ok (.aload_n 0, 1) := by decide +kernel
theorem dX8_setMeeting_12 : decode cX8_setMeeting 12 = .ok (.getfield 23, 3) := by decide +kernel
theorem dX8_setMeeting_15 : decode cX8_setMeeting 15 = .ok (.iload_n 1, 1) := by decide +kernel
theorem dX8_setMeeting_16 : decode cX8_setMeeting 16 = .ok (.iload_n 2, 1) := by decide +kernel
theorem dX8_setMeeting_17 : decode cX8_setMeeting 17 = .ok (.iastore, 1) := by decide +kernel
theorem dX8_setMeeting_18 : decode cX8_setMeeting 18 = .ok (.aload_n 0, 1) := by decide +kernel
theorem dX8_setMeeting_19 : decode cX8_setMeeting 19 = .ok (.getfield 27, 3) := by decide +kernel
theorem dX8_setMeeting_22 : decode cX8_setMeeting 22 = .ok (.iload_n 1, 1) := by decide +kernel
theorem dX8_setMeeting_23 : decode cX8_setMeeting 23 = .ok (.iload_n 3, 1) := by decide +kernel
theorem dX8_setMeeting_24 : decode cX8_setMeeting 24 = .ok (.iastore, 1) := by decide +kernel
theorem dX8_setMeeting_25 : decode cX8_setMeeting 25 = .ok (.return_, 1) := by decide +kernel
set_option maxRecDepth 100000 in
theorem B_X8_setMeeting_0 {d : Nat} {h : AbH} {K : Option AbV → AbH → Prop} {x0 : Nat} {x1 : Int} {x2 : Int} {x3 : Int} (hh : Vm d m_X9_within [vI x1, vI 0, vI 15] h (kI (fun n2 h1 => ((n2 ≠ 0 → wpGR h1 (some x0) 7 2 (fun r3 => wpSI h1 r3 x1 x2 (fun h4 => wpGR h4 (some x0) 7 3 (fun r5 => wpSI h4 r5 x1 x3 (fun h6 => K none h6))))) ∧ (¬ (n2 ≠ 0) → K none h1))))) : Vx (d + 1) m_X8_setMeeting 0 0 0 [some (vR (some x0)), some (vI x1), some (vI x2), some (vI x3)] [] h K := by
  refine rr_iload_n dX8_setMeeting_0 rfl rfl ?_
  refine rr_iconst dX8_setMeeting_1 rfl ⟨by decide, by decide⟩ ?_
  refine rr_bipush dX8_setMeeting_2 rfl ⟨by decide, by decide⟩ rfl ?_
  refine rr_callSN (bc' := 0) (bs' := 0) (av := [vI x1, vI 0, vI 15]) (st := []) mf_X9_within dX8_setMeeting_4 rfl qn_6 q_197 rfl (by decide) (Nat.le_refl _) (Nat.le_refl _) hh (rr_kI fun n2 h1 hh => ?_)
  refine rr_if_ne (tgt := 11) dX8_setMeeting_7 rfl (by decide) (fun hc7 => ?_) (fun hc7 => ?_)
  · have hh := hh.1 hc7
    refine rr_aload_n dX8_setMeeting_11 rfl rfl ?_
    refine rr_getR cf_X8 (j := 2) (by decide) dX8_setMeeting_12 rfl q_37 hh (fun r3 hh => ?_)
    refine rr_iload_n dX8_setMeeting_15 rfl rfl ?_
    refine rr_iload_n dX8_setMeeting_16 rfl rfl ?_
    refine rr_iast dX8_setMeeting_17 rfl hh (fun h4 hh => ?_)
    refine rr_aload_n dX8_setMeeting_18 rfl rfl ?_
    refine rr_getR cf_X8 (j := 3) (by decide) dX8_setMeeting_19 rfl q_38 hh (fun r5 hh => ?_)
    refine rr_iload_n dX8_setMeeting_22 rfl rfl ?_
    refine rr_iload_n dX8_setMeeting_23 rfl rfl ?_
    refine rr_iast dX8_setMeeting_24 rfl hh (fun h6 hh => ?_)
    exact rr_vret dX8_setMeeting_25 rfl hh
  · have hh := hh.2 hc7
    exact rr_vret dX8_setMeeting_10 rfl hh
theorem dX8_meetings_0 : decode cX8_meetings 0 = .ok (.iconst 0, 1) := by decide +kernel
theorem dX8_meetings_1 : decode cX8_meetings 1 = .ok (.istore_n 1, 1) := by decide +kernel
theorem dX8_meetings_2 : decode cX8_meetings 2 = .ok (.aload_n 0, 1) := by decide +kernel
theorem dX8_meetings_3 : decode cX8_meetings 3 = .ok (.getfield 23, 3) := by decide +kernel
theorem dX8_meetings_6 : decode cX8_meetings 6 = .ok (.astore_n 2, 1) := by decide +kernel
theorem dX8_meetings_7 : decode cX8_meetings 7 = .ok (.aload_n 2, 1) := by decide +kernel
theorem dX8_meetings_8 : decode cX8_meetings 8 = .ok (.arraylength, 1) := by decide +kernel
theorem dX8_meetings_9 : decode cX8_meetings 9 = .ok (.istore_n 3, 1) := by decide +kernel
theorem dX8_meetings_10 : decode cX8_meetings 10 = .ok (.iconst 0, 1) := by decide +kernel
theorem dX8_meetings_11 : decode cX8_meetings 11 = .ok (.istore 4, 2) := by decide +kernel
theorem dX8_meetings_13 : decode cX8_meetings 13 = .ok (.iload 4, 2) := by decide +kernel
theorem dX8_meetings_15 : decode cX8_meetings 15 = .ok (.iload_n 3, 1) := by decide +kernel
theorem dX8_meetings_16 : decode cX8_meetings 16 = .ok (.if_icmp .ge 24, 3) := by decide +kernel
theorem dX8_meetings_19 : decode cX8_meetings 19 = .ok (.aload_n 2, 1) := by decide +kernel
theorem dX8_meetings_20 : decode cX8_meetings 20 = .ok (.iload 4, 2) := by decide +kernel
theorem dX8_meetings_22 : decode cX8_meetings 22 = .ok (.iaload, 1) := by decide +kernel
theorem dX8_meetings_23 : decode cX8_meetings 23 = .ok (.istore 5, 2) := by decide +kernel
theorem dX8_meetings_25 : decode cX8_meetings 25 = .ok (.iload 5, 2) := by decide +kernel
theorem dX8_meetings_27 : decode cX8_meetings 27 = .ok (.iconst (-1), 1) := by decide +kernel
theorem dX8_meetings_28 : decode cX8_meetings 28 = .ok (.if_icmp .eq 6, 3) := by decide +kernel
theorem dX8_meetings_31 : decode cX8_meetings 31 = .ok (.iinc 1 1, 3) := by decide +kernel
theorem dX8_meetings_34 : decode cX8_meetings 34 = .ok (.iinc 4 1, 3) := by decide +kernel
theorem dX8_meetings_37 : decode cX8_meetings 37 = .ok (.goto (-24), 3) := by decide +kernel
theorem dX8_meetings_40 : decode cX8_meetings 40 = .ok (.iload_n 1, 1) := by decide +kernel
theorem dX8_meetings_41 : decode cX8_meetings 41 = .ok (.ireturn, 1) := by decide +kernel
set_option maxRecDepth 100000 in
theorem B_X8_meetings_0 {d : Nat} {h : AbH} {K : Option AbV → AbH → Prop} {x0 : Nat} (hh : wpGR h (some x0) 7 2 (fun r1 => wpNI h r1 (fun n2 => Vx (d + 1) m_X8_meetings 0 0 13 [some (vR (some x0)), some (vI 0), some (vR r1), some (vI n2), some (vI 0), none] [] h K))) : Vx (d + 1) m_X8_meetings 0 0 0 [some (vR (some x0))] [] h K := by
  refine Vx.pad 5 [some (vR (some x0)), none, none, none, none, none] rfl ?_
  refine rr_iconst dX8_meetings_0 rfl ⟨by decide, by decide⟩ ?_
  refine rr_istore_n (ls' := [some (vR (some x0)), some (vI 0), none, none, none, none]) dX8_meetings_1 rfl (by decide) (fun _ z => by cases z) rfl ?_
  refine rr_aload_n dX8_meetings_2 rfl rfl ?_
  refine rr_getR cf_X8 (j := 2) (by decide) dX8_meetings_3 rfl q_37 hh (fun r1 hh => ?_)
  refine rr_astore_n (ls' := [some (vR (some x0)), some (vI 0), some (vR r1), none, none, none]) dX8_meetings_6 rfl (by decide) (fun _ z => by cases z) rfl ?_
  refine rr_aload_n dX8_meetings_7 rfl rfl ?_
  refine rr_alenI dX8_meetings_8 rfl hh (fun n2 hh => ?_)
  refine rr_istore_n (ls' := [some (vR (some x0)), some (vI 0), some (vR r1), some (vI n2), none, none]) dX8_meetings_9 rfl (by decide) (fun _ z => by cases z) rfl ?_
  refine rr_iconst dX8_meetings_10 rfl ⟨by decide, by decide⟩ ?_
  refine rr_istore (ls' := [some (vR (some x0)), some (vI 0), some (vR r1), some (vI n2), some (vI 0), none]) dX8_meetings_11 rfl (by decide) (fun _ z => by cases z) rfl ?_
  exact hh
set_option maxRecDepth 100000 in
theorem B_X8_meetings_13 {d : Nat} {h : AbH} {K : Option AbV → AbH → Prop} {x0 : Nat} {x1 : Int} {x2 : Option Nat} {x3 : Int} {x4 : Int} {bc bs : Nat} (hh : ((x3 ≤ x4 → K (some (vI x1)) h) ∧ (¬ (x3 ≤ x4) → wpLI h x2 x4 (fun n1 => ((n1 = (-1) → in32 (x4 + 1) ∧ Vx (d + 1) m_X8_meetings bc bs 13 [some (vR (some x0)), some (vI x1), some (vR x2), some (vI x3), some (vI (x4 + 1)), none] [] h K) ∧ (¬ (n1 = (-1)) → in32 (x1 + 1) ∧ in32 (x4 + 1) ∧ Vx (d + 1) m_X8_meetings bc bs 13 [some (vR (some x0)), some (vI (x1 + 1)), some (vR x2), some (vI x3), some (vI (x4 + 1)), none] [] h K)))))) : Vx (d + 1) m_X8_meetings bc bs 13 [some (vR (some x0)), some (vI x1), some (vR x2), some (vI x3), some (vI x4), none] [] h K := by
  refine rr_iload dX8_meetings_13 rfl rfl ?_
  refine rr_iload_n dX8_meetings_15 rfl rfl ?_
  refine rr_icmp_ge (tgt := 40) dX8_meetings_16 rfl (by decide) (fun hc16 => ?_) (fun hc16 => ?_)
  · have hh := hh.1 hc16
    refine rr_iload_n dX8_meetings_40 rfl rfl ?_
    exact rr_iret dX8_meetings_41 rfl hh
  · have hh := hh.2 hc16
    refine rr_aload_n dX8_meetings_19 rfl rfl ?_
    refine rr_iload dX8_meetings_20 rfl rfl ?_
    refine rr_iald dX8_meetings_22 rfl hh (fun n1 hh => ?_)
    refine rr_istore (ls' := [some (vR (some x0)), some (vI x1), some (vR x2), some (vI x3), some (vI x4), some (vI n1)]) dX8_meetings_23 rfl (by decide) (fun _ z => by cases z) rfl ?_
    refine rr_iload dX8_meetings_25 rfl rfl ?_
    refine rr_iconst dX8_meetings_27 rfl ⟨by decide, by decide⟩ ?_
    refine rr_icmp_eq (tgt := 34) dX8_meetings_28 rfl (by decide) (fun hc28 => ?_) (fun hc28 => ?_)
    · have hh := hh.1 hc28
      obtain ⟨hz2, hh⟩ := hh
      refine rr_iinc (ls' := [some (vR (some x0)), some (vI x1), some (vR x2), some (vI x3), some (vI (x4 + 1)), some (vI n1)]) dX8_meetings_34 rfl rfl (by decide) (fun _ z => by cases z) hz2 rfl ?_
      refine rr_goto (pc' := 13) dX8_meetings_37 (by decide) ?_
      exact Vx.forget (ls' := [some (vR (some x0)), some (vI x1), some (vR x2), some (vI x3), some (vI (x4 + 1)), none]) (And.intro rfl (And.intro rfl (And.intro rfl (And.intro rfl (And.intro rfl trivial))))) hh
    · have hh := hh.2 hc28
      obtain ⟨hz3, hh⟩ := hh
      refine rr_iinc (ls' := [some (vR (some x0)), some (vI (x1 + 1)), some (vR x2), some (vI x3), some (vI x4), some (vI n1)]) dX8_meetings_31 rfl rfl (by decide) (fun _ z => by cases z) hz3 rfl ?_
      obtain ⟨hz4, hh⟩ := hh
      refine rr_iinc (ls' := [some (vR (some x0)), some (vI (x1 + 1)), some (vR x2), some (vI x3), some (vI (x4 + 1)), some (vI n1)]) dX8_meetings_34 rfl rfl (by decide) (fun _ z => by cases z) hz4 rfl ?_
      refine rr_goto (pc' := 13) dX8_meetings_37 (by decide) ?_
      exact Vx.forget (ls' := [some (vR (some x0)), some (vI (x1 + 1)), some (vR x2), some (vI x3), some (vI (x4 + 1)), none]) (And.intro rfl (And.intro rfl (And.intro rfl (And.intro rfl (And.intro rfl trivial))))) hh
theorem dX8_isMeeting_0 : decode cX8_isMeeting 0 = .ok (.aload_n 0, 1) := by decide +kernel
theorem dX8_isMeeting_1 : decode cX8_isMeeting 1 = .ok (.iload_n 1, 1) := by decide +kernel
theorem dX8_isMeeting_2 : decode cX8_isMeeting 2 = .ok (.invokevirtual 60, 3) := by decide +kernel
theorem dX8_isMeeting_5 : decode cX8_isMeeting 5 = .ok (.iconst (-1), 1) := by decide +kernel
theorem dX8_isMeeting_6 : decode cX8_isMeeting 6 = .ok (.if_icmp .eq 24, 3) := by decide +kernel
theorem dX8_isMeeting_9 : decode cX8_isMeeting 9 = .ok (.iload_n 2, 1) := by decide +kernel
theorem dX8_isMeeting_10 : decode cX8_isMeeting 10 = .ok (.aload_n 0, 1) := by decide +kernel
theorem dX8_isMeeting_11 : decode cX8_isMeeting 11 = .ok (.iload_n 1, 1) := by decide +kernel
theorem dX8_isMeeting_12 : decode cX8_isMeeting 12 = .ok (.invokevirtual 60, 3) := by decide +kernel
theorem dX8_isMeeting_15 : decode cX8_isMeeting 15 = .ok (.aload_n 0, 1) := by decide +kernel
theorem dX8_isMeeting_16 : decode cX8_isMeeting 16 = .ok (.iload_n 1, 1) := by decide +kernel
theorem dX8_isMeeting_17 : decode cX8_isMeeting 17 = .ok (.invokevirtual 64, 3) := by decide +kernel
theorem dX8_isMeeting_20 : decode cX8_isMeeting 20 = .ok (.invokestatic 42, 3) := by decide +kernel
theorem dX8_isMeeting_23 : decode cX8_isMeeting 23 = .ok (.ifCond .eq 7, 3) := by decide +kernel
theorem dX8_isMeeting_26 : decode cX8_isMeeting 26 = .ok (.iconst 1, 1) := by decide +kernel
theorem dX8_isMeeting_27 : decode cX8_isMeeting 27 = .ok (.goto 4, 3) := by decide +kernel
theorem dX8_isMeeting_30 : decode cX8_isMeeting 30 = .ok (.iconst 0, 1) := by decide +kernel
theorem dX8_isMeeting_31 : decode cX8_isMeeting 31 = .ok (.ireturn, 1) := by decide +kernel
set_option maxRecDepth 100000 in
theorem B_X8_isMeeting_0 {d : Nat} {h : AbH} {K : Option AbV → AbH → Prop} {x0 : Nat} {x1 : Int} {x2 : Int} (hh : wpCV h (some x0) 7 (fun b11 => Vm d m_X8_firstOf [vR (some b11), vI x1] h (kI (fun n2 h1 => ((n2 = (-1) → K (some (vI 0)) h1) ∧ (¬ (n2 = (-1)) → wpCV h1 (some x0) 7 (fun b10 => Vm d m_X8_firstOf [vR (some b10), vI x1] h1 (kI (fun n4 h3 => wpCV h3 (some x0) 7 (fun b9 => Vm d m_X8_lastOf [vR (some b9), vI x1] h3 (kI (fun n6 h5 => Vm d m_X9_within [vI x2, vI n4, vI n6] h5 (kI (fun n8 h7 => ((n8 = 0 → K (some (vI 0)) h7) ∧ (¬ (n8 = 0) → K (some (vI 1)) h7)))))))))))))))) : Vx (d + 1) m_X8_isMeeting 0 0 0 [some (vR (some x0)), some (vI x1), some (vI x2)] [] h K := by
  refine rr_aload_n dX8_isMeeting_0 rfl rfl ?_
  refine rr_iload_n dX8_isMeeting_1 rfl rfl ?_
  refine rr_callW (bc' := 0) (bs' := 0) (q := (some x0)) (av := [vI x1]) (st := []) mf_X8_firstOf dX8_isMeeting_2 rfl q_713 q_495 q_496 ⟨_, _, rfl⟩ rfl (by decide) (Nat.le_refl _) (Nat.le_refl _) hh (rr_kI fun n2 h1 hh => ?_)
  refine rr_iconst dX8_isMeeting_5 rfl ⟨by decide, by decide⟩ ?_
  refine rr_icmp_eq (tgt := 30) dX8_isMeeting_6 rfl (by decide) (fun hc6 => ?_) (fun hc6 => ?_)
  · have hh := hh.1 hc6
    refine rr_iconst dX8_isMeeting_30 rfl ⟨by decide, by decide⟩ ?_
    exact rr_zret dX8_isMeeting_31 rfl rfl hh
  · have hh := hh.2 hc6
    refine rr_iload_n dX8_isMeeting_9 rfl rfl ?_
    refine rr_aload_n dX8_isMeeting_10 rfl rfl ?_
    refine rr_iload_n dX8_isMeeting_11 rfl rfl ?_
    refine rr_callW (bc' := 0) (bs' := 0) (q := (some x0)) (av := [vI x1]) (st := [vI x2]) mf_X8_firstOf dX8_isMeeting_12 rfl q_713 q_495 q_496 ⟨_, _, rfl⟩ rfl (show 1 ≤ 8 by decide) (Nat.le_refl _) (Nat.le_refl _) hh (rr_kI fun n4 h3 hh => ?_)
    refine rr_aload_n dX8_isMeeting_15 rfl rfl ?_
    refine rr_iload_n dX8_isMeeting_16 rfl rfl ?_
    refine rr_callW (bc' := 0) (bs' := 0) (q := (some x0)) (av := [vI x1]) (st := [vI n4, vI x2]) mf_X8_lastOf dX8_isMeeting_17 rfl q_714 q_565 q_566 ⟨_, _, rfl⟩ rfl (show 2 ≤ 8 by decide) (Nat.le_refl _) (Nat.le_refl _) hh (rr_kI fun n6 h5 hh => ?_)
    refine rr_callSN (bc' := 0) (bs' := 0) (av := [vI x2, vI n4, vI n6]) (st := []) mf_X9_within dX8_isMeeting_20 rfl qn_6 q_197 rfl (by decide) (Nat.le_refl _) (Nat.le_refl _) hh (rr_kI fun n8 h7 hh => ?_)
    refine rr_if_eq (tgt := 30) dX8_isMeeting_23 rfl (by decide) (fun hc23 => ?_) (fun hc23 => ?_)
    · have hh := hh.1 hc23
      refine rr_iconst dX8_isMeeting_30 rfl ⟨by decide, by decide⟩ ?_
      exact rr_zret dX8_isMeeting_31 rfl rfl hh
    · have hh := hh.2 hc23
      refine rr_iconst dX8_isMeeting_26 rfl ⟨by decide, by decide⟩ ?_
      refine rr_goto (pc' := 31) dX8_isMeeting_27 (by decide) ?_
      exact rr_zret dX8_isMeeting_31 rfl rfl hh
theorem dX8_loanAt_0 : decode cX8_loanAt 0 = .ok (.iload_n 1, 1) := by decide +kernel
theorem dX8_loanAt_1 : decode cX8_loanAt 1 = .ok (.iconst 0, 1) := by decide +kernel
theorem dX8_loanAt_2 : decode cX8_loanAt 2 = .ok (.aload_n 0, 1) := by decide +kernel
theorem dX8_loanAt_3 : decode cX8_loanAt 3 = .ok (.getfield 19, 3) := by decide +kernel
theorem dX8_loanAt_6 : decode cX8_loanAt 6 = .ok (.arraylength, 1) := by decide +kernel
theorem dX8_loanAt_7 : decode cX8_loanAt 7 = .ok (.iconst 1, 1) := by decide +kernel
theorem dX8_loanAt_8 : decode cX8_loanAt 8 = .ok (.isub, 1) := by decide +kernel
theorem dX8_loanAt_9 : decode cX8_loanAt 9 = .ok (.invokestatic 42, 3) := by decide +kernel
theorem dX8_loanAt_12 : decode cX8_loanAt 12 = .ok (.ifCond .eq 12, 3) := by decide +kernel
theorem dX8_loanAt_15 : decode cX8_loanAt 15 = .ok (.aload_n 0, 1) := by decide +kernel
theorem dX8_loanAt_16 : decode cX8_loanAt 16 = .ok (.getfield 19, 3) := by decide +kernel
theorem dX8_loanAt_19 : decode cX8_loanAt 19 = .ok (.iload_n 1, 1) := by decide +kernel
theorem dX8_loanAt_20 : decode cX8_loanAt 20 = .ok (.aaload, 1) := by decide +kernel
theorem dX8_loanAt_21 : decode cX8_loanAt 21 = .ok (.goto 4, 3) := by decide +kernel
theorem dX8_loanAt_24 : decode cX8_loanAt 24 = .ok (.aconst_null, 1) := by decide +kernel
theorem dX8_loanAt_25 : decode cX8_loanAt 25 = .ok (.areturn, 1) := by decide +kernel
set_option maxRecDepth 100000 in
theorem B_X8_loanAt_0 {d : Nat} {h : AbH} {K : Option AbV → AbH → Prop} {x0 : Nat} {x1 : Int} (hh : wpGR h (some x0) 7 1 (fun r1 => wpNR h r1 (fun n2 => in32 (n2 - 1) ∧ Vm d m_X9_within [vI x1, vI 0, vI (n2 - 1)] h (kI (fun n5 h4 => ((n5 = 0 → K (some (vR none)) h4) ∧ (¬ (n5 = 0) → wpGR h4 (some x0) 7 1 (fun r6 => wpLR h4 r6 x1 (fun r7 => K (some (vR r7)) h4))))))))) : Vx (d + 1) m_X8_loanAt 0 0 0 [some (vR (some x0)), some (vI x1)] [] h K := by
  refine rr_iload_n dX8_loanAt_0 rfl rfl ?_
  refine rr_iconst dX8_loanAt_1 rfl ⟨by decide, by decide⟩ ?_
  refine rr_aload_n dX8_loanAt_2 rfl rfl ?_
  refine rr_getR cf_X8 (j := 1) (by decide) dX8_loanAt_3 rfl q_36 hh (fun r1 hh => ?_)
  refine rr_alenR dX8_loanAt_6 rfl hh (fun n2 hh => ?_)
  refine rr_iconst dX8_loanAt_7 rfl ⟨by decide, by decide⟩ ?_
  obtain ⟨hz3, hh⟩ := hh
  refine rr_isub dX8_loanAt_8 rfl hz3 ?_
  refine rr_callSN (bc' := 0) (bs' := 0) (av := [vI x1, vI 0, vI (n2 - 1)]) (st := []) mf_X9_within dX8_loanAt_9 rfl qn_6 q_197 rfl (by decide) (Nat.le_refl _) (Nat.le_refl _) hh (rr_kI fun n5 h4 hh => ?_)
  refine rr_if_eq (tgt := 24) dX8_loanAt_12 rfl (by decide) (fun hc12 => ?_) (fun hc12 => ?_)
  · have hh := hh.1 hc12
    refine rr_null dX8_loanAt_24 rfl ?_
    exact rr_aret dX8_loanAt_25 rfl (Or.inl ⟨_, rfl⟩) hh
  · have hh := hh.2 hc12
    refine rr_aload_n dX8_loanAt_15 rfl rfl ?_
    refine rr_getR cf_X8 (j := 1) (by decide) dX8_loanAt_16 rfl q_36 hh (fun r6 hh => ?_)
    refine rr_iload_n dX8_loanAt_19 rfl rfl ?_
    refine rr_aald dX8_loanAt_20 rfl hh (fun r7 hh => ?_)
    refine rr_goto (pc' := 25) dX8_loanAt_21 (by decide) ?_
    exact rr_aret dX8_loanAt_25 rfl (Or.inl ⟨_, rfl⟩) hh
theorem dX8_addLoan_0 : decode cX8_addLoan 0 = .ok (.aload_n 0, 1) := by decide +kernel
theorem dX8_addLoan_1 : decode cX8_addLoan 1 = .ok (.getfield 34, 3) := by decide +kernel
theorem dX8_addLoan_4 : decode cX8_addLoan 4 = .ok (.iconst 0, 1) := by decide +kernel
theorem dX8_addLoan_5 : decode cX8_addLoan 5 = .ok (.aload_n 0, 1) := by decide +kernel
theorem dX8_addLoan_6 : decode cX8_addLoan 6 = .ok (.getfield 19, 3) := by decide +kernel
theorem dX8_addLoan_9 : decode cX8_addLoan 9 = .ok (.arraylength, 1) := by decide +kernel
theorem dX8_addLoan_10 : decode cX8_addLoan 10 = .ok (.iconst 1, 1) := by decide +kernel
theorem dX8_addLoan_11 : decode cX8_addLoan 11 = .ok (.isub, 1) := by decide +kernel
theorem dX8_addLoan_12 : decode cX8_addLoan 12 = .ok (.invokestatic 42, 3) := by decide +kernel
theorem dX8_addLoan_15 : decode cX8_addLoan 15 = .ok (.ifCond .ne 4, 3) := by decide +kernel
theorem dX8_addLoan_18 : decode cX8_addLoan 18 = .ok (.return_, 1) := by decide +kernel
theorem dX8_addLoan_19 : decode cX8_addLoan 19 = .ok (.aload_n 0, 1) := by decide +kernel
theorem dX8_addLoan_20 : decode cX8_addLoan 20 = .ok (.getfield 19, 3) := by decide +kernel
theorem dX8_addLoan_23 : decode cX8_addLoan 23 = .ok (.aload_n 0, 1) := by decide +kernel
theorem dX8_addLoan_24 : decode cX8_addLoan 24 = .ok (.getfield 34, 3) := by decide +kernel
theorem dX8_addLoan_27 : decode cX8_addLoan 27 = .ok (.aload_n 1, 1) := by decide +kernel
theorem dX8_addLoan_28 : decode cX8_addLoan 28 = .ok (.aastore, 1) := by decide +kernel
theorem dX8_addLoan_29 : decode cX8_addLoan 29 = .ok (.aload_n 0, 1) := by decide +kernel
theorem dX8_addLoan_30 : decode cX8_addLoan 30 = .ok (.dup, 1) := by decide +kernel
theorem dX8_addLoan_31 : decode cX8_addLoan 31 = .ok (.getfield 34, 3) := by decide +kernel
theorem dX8_addLoan_34 : decode cX8_addLoan 34 = .ok (.iconst 1, 1) := by decide +kernel
theorem dX8_addLoan_35 : decode cX8_addLoan 35 = .ok (.iadd, 1) := by decide +kernel
theorem dX8_addLoan_36 : decode cX8_addLoan 36 = .ok (.putfield 34, 3) := by decide +kernel
theorem dX8_addLoan_39 : decode cX8_addLoan 39 = .ok (.return_, 1) := by decide +kernel
set_option maxRecDepth 100000 in
theorem B_X8_addLoan_0 {d : Nat} {h : AbH} {K : Option AbV → AbH → Prop} {x0 : Nat} {x1 : Option Nat} (hh : wpGI h (some x0) 7 5 (fun n1 => wpGR h (some x0) 7 1 (fun r2 => wpNR h r2 (fun n3 => in32 (n3 - 1) ∧ Vm d m_X9_within [vI n1, vI 0, vI (n3 - 1)] h (kI (fun n6 h5 => ((n6 ≠ 0 → wpGR h5 (some x0) 7 1 (fun r7 => wpGI h5 (some x0) 7 5 (fun n8 => wpSR h5 r7 n8 x1 (fun h9 => wpGI h9 (some x0) 7 5 (fun n10 => in32 (n10 + 1) ∧ wpP h9 (some x0) 7 5 (vI (n10 + 1)) (fun h12 => K none h12)))))) ∧ (¬ (n6 ≠ 0) → K none h5)))))))) : Vx (d + 1) m_X8_addLoan 0 0 0 [some (vR (some x0)), some (vR x1)] [] h K := by
  refine rr_aload_n dX8_addLoan_0 rfl rfl ?_
  refine rr_getI cf_X8 (j := 5) (by decide) dX8_addLoan_1 rfl q_42 hh (fun n1 hh => ?_)
  refine rr_iconst dX8_addLoan_4 rfl ⟨by decide, by decide⟩ ?_
  refine rr_aload_n dX8_addLoan_5 rfl rfl ?_
  refine rr_getR cf_X8 (j := 1) (by decide) dX8_addLoan_6 rfl q_36 hh (fun r2 hh => ?_)
  refine rr_alenR dX8_addLoan_9 rfl hh (fun n3 hh => ?_)
  refine rr_iconst dX8_addLoan_10 rfl ⟨by decide, by decide⟩ ?_
  obtain ⟨hz4, hh⟩ := hh
  refine rr_isub dX8_addLoan_11 rfl hz4 ?_
  refine rr_callSN (bc' := 0) (bs' := 0) (av := [vI n1, vI 0, vI (n3 - 1)]) (st := []) mf_X9_within dX8_addLoan_12 rfl qn_6 q_197 rfl (by decide) (Nat.le_refl _) (Nat.le_refl _) hh (rr_kI fun n6 h5 hh => ?_)
  refine rr_if_ne (tgt := 19) dX8_addLoan_15 rfl (by decide) (fun hc15 => ?_) (fun hc15 => ?_)
  · have hh := hh.1 hc15
    refine rr_aload_n dX8_addLoan_19 rfl rfl ?_
    refine rr_getR cf_X8 (j := 1) (by decide) dX8_addLoan_20 rfl q_36 hh (fun r7 hh => ?_)
    refine rr_aload_n dX8_addLoan_23 rfl rfl ?_
    refine rr_getI cf_X8 (j := 5) (by decide) dX8_addLoan_24 rfl q_42 hh (fun n8 hh => ?_)
    refine rr_aload_n dX8_addLoan_27 rfl rfl ?_
    refine rr_aast dX8_addLoan_28 rfl hh (fun h9 hh => ?_)
    refine rr_aload_n dX8_addLoan_29 rfl rfl ?_
    refine rr_dup dX8_addLoan_30 rfl rfl ?_
    refine rr_getI cf_X8 (j := 5) (by decide) dX8_addLoan_31 rfl q_42 hh (fun n10 hh => ?_)
    refine rr_iconst dX8_addLoan_34 rfl ⟨by decide, by decide⟩ ?_
    obtain ⟨hz11, hh⟩ := hh
    refine rr_iadd dX8_addLoan_35 rfl hz11 ?_
    refine rr_put cf_X8 (j := 5) (by decide) dX8_addLoan_36 rfl q_42 rfl (fty := .int) (by decide +kernel) rfl rfl hh (fun h12 hh => ?_)
    exact rr_vret dX8_addLoan_39 rfl hh
  · have hh := hh.2 hc15
    exact rr_vret dX8_addLoan_18 rfl hh
theorem dX8_removeLoan_0 : decode cX8_removeLoan 0 = .ok (.aload_n 0, 1) := by decide +kernel
theorem dX8_removeLoan_1 : decode cX8_removeLoan 1 = .ok (.iload_n 1, 1) := by decide +kernel
theorem dX8_removeLoan_2 : decode cX8_removeLoan 2 = .ok (.invokevirtual 67, 3) := by decide +kernel
theorem dX8_removeLoan_5 : decode cX8_removeLoan 5 = .ok (.ifnonnull 4, 3) := by decide +kernel
theorem dX8_removeLoan_8 : decode cX8_removeLoan 8 = .ok (.return_, 1) := by decide +kernel
theorem dX8_removeLoan_9 : decode cX8_removeLoan 9 = .ok (.iload_n 1, 1) := by decide +kernel
theorem dX8_removeLoan_10 : decode cX8_removeLoan 10 = .ok (.istore_n 2, 1) := by decide +kernel
theorem dX8_removeLoan_11 : decode cX8_removeLoan 11 = .ok (.iload_n 2, 1) := by decide +kernel
theorem dX8_removeLoan_12 : decode cX8_removeLoan 12 = .ok (.aload_n 0, 1) := by decide +kernel
theorem dX8_removeLoan_13 : decode cX8_removeLoan 13 = .ok (.getfield 19, 3) := by decide +kernel
theorem dX8_removeLoan_16 : decode cX8_removeLoan 16 = .ok (.arraylength, 1) := by decide +kernel
theorem dX8_removeLoan_17 : decode cX8_removeLoan 17 = .ok (.if_icmp .ge 22, 3) := by decide +kernel
theorem dX8_removeLoan_20 : decode cX8_removeLoan 20 = .ok (.aload_n 0, 1) := by decide +kernel
theorem dX8_removeLoan_21 : decode cX8_removeLoan 21 = .ok (.getfield 19, 3) := by decide +kernel
theorem dX8_removeLoan_24 : decode cX8_removeLoan 24 = .ok (.iload_n 2, 1) := by decide +kernel
theorem dX8_removeLoan_25 : decode cX8_removeLoan 25 = .ok (.aload_n 0, 1) := by decide +kernel
theorem dX8_removeLoan_26 : decode cX8_removeLoan 26 = .ok (.iload_n 2, 1) := by decide +kernel
theorem dX8_removeLoan_27 : decode cX8_removeLoan 27 = .ok (.iconst 1, 1) := by decide +kernel
theorem dX8_removeLoan_28 : decode cX8_removeLoan 28 = .ok (.iadd, 1) := by decide +kernel
theorem dX8_removeLoan_29 : decode cX8_removeLoan 29 = .ok (.invokevirtual 67, 3) := by decide +kernel
theorem dX8_removeLoan_32 : decode cX8_removeLoan 32 = .ok (.aastore, 1) := by decide +kernel
theorem dX8_removeLoan_33 : decode cX8_removeLoan 33 = .ok (.iinc 2 1, 3) := by decide +kernel
theorem dX8_removeLoan_36 : decode cX8_removeLoan 36 = .ok (.goto (-25), 3) := by decide +kernel
theorem dX8_removeLoan_39 : decode cX8_removeLoan 39 = .ok (.aload_n 0, 1) := by decide +kernel
theorem dX8_removeLoan_40 : decode cX8_removeLoan 40 = .ok (.dup, 1) := by decide +kernel
theorem dX8_removeLoan_41 : decode cX8_removeLoan 41 = .ok (.getfield 34, 3) := by decide +kernel
theorem dX8_removeLoan_44 : decode cX8_removeLoan 44 = .ok (.iconst 1, 1) := by decide +kernel
theorem dX8_removeLoan_45 : decode cX8_removeLoan 45 = .ok (.isub, 1) := by decide +kernel
theorem dX8_removeLoan_46 : decode cX8_removeLoan 46 = .ok (.putfield 34, 3) := by decide +kernel
theorem dX8_removeLoan_49 : decode cX8_removeLoan 49 = .ok (.return_, 1) := by decide +kernel
set_option maxRecDepth 100000 in
theorem B_X8_removeLoan_0 {d : Nat} {h : AbH} {K : Option AbV → AbH → Prop} {x0 : Nat} {x1 : Int} (hh : wpCV h (some x0) 7 (fun b3 => Vm d m_X8_loanAt [vR (some b3), vI x1] h (kR (fun r2 h1 => ((r2 ≠ none → Vx (d + 1) m_X8_removeLoan 0 0 11 [some (vR (some x0)), some (vI x1), some (vI x1)] [] h1 K) ∧ (¬ (r2 ≠ none) → K none h1)))))) : Vx (d + 1) m_X8_removeLoan 0 0 0 [some (vR (some x0)), some (vI x1)] [] h K := by
  refine Vx.pad 1 [some (vR (some x0)), some (vI x1), none] rfl ?_
  refine rr_aload_n dX8_removeLoan_0 rfl rfl ?_
  refine rr_iload_n dX8_removeLoan_1 rfl rfl ?_
  refine rr_callW (bc' := 0) (bs' := 0) (q := (some x0)) (av := [vI x1]) (st := []) mf_X8_loanAt dX8_removeLoan_2 rfl q_534 q_503 q_504 ⟨_, _, rfl⟩ rfl (by decide) (Nat.le_refl _) (Nat.le_refl _) hh (rr_kR fun r2 h1 hh => ?_)
  refine rr_ifnonnull (tgt := 9) dX8_removeLoan_5 rfl (by decide) (fun hc5 => ?_) (fun hc5 => ?_)
  · have hh := hh.1 hc5
    refine rr_iload_n dX8_removeLoan_9 rfl rfl ?_
    refine rr_istore_n (ls' := [some (vR (some x0)), some (vI x1), some (vI x1)]) dX8_removeLoan_10 rfl (by decide) (fun _ z => by cases z) rfl ?_
    exact hh
  · have hh := hh.2 hc5
    exact rr_vret dX8_removeLoan_8 rfl hh
set_option maxRecDepth 100000 in
theorem B_X8_removeLoan_11 {d : Nat} {h : AbH} {K : Option AbV → AbH → Prop} {x0 : Nat} {x1 : Int} {x2 : Int} {bc bs : Nat} (hh : wpGR h (some x0) 7 1 (fun r1 => wpNR h r1 (fun n2 => ((n2 ≤ x2 → wpGI h (some x0) 7 5 (fun n3 => in32 (n3 - 1) ∧ wpP h (some x0) 7 5 (vI (n3 - 1)) (fun h5 => K none h5))) ∧ (¬ (n2 ≤ x2) → wpGR h (some x0) 7 1 (fun r6 => in32 (x2 + 1) ∧ wpCV h (some x0) 7 (fun b12 => Vm d m_X8_loanAt [vR (some b12), vI (x2 + 1)] h (kR (fun r9 h8 => wpSR h8 r6 x2 r9 (fun h10 => in32 (x2 + 1) ∧ Vx (d + 1) m_X8_removeLoan bc bs 11 [some (vR (some x0)), some (vI x1), some (vI (x2 + 1))] [] h10 K)))))))))) : Vx (d + 1) m_X8_removeLoan bc bs 11 [some (vR (some x0)), some (vI x1), some (vI x2)] [] h K := by
  refine rr_iload_n dX8_removeLoan_11 rfl rfl ?_
  refine rr_aload_n dX8_removeLoan_12 rfl rfl ?_
  refine rr_getR cf_X8 (j := 1) (by decide) dX8_removeLoan_13 rfl q_36 hh (fun r1 hh => ?_)
  refine rr_alenR dX8_removeLoan_16 rfl hh (fun n2 hh => ?_)
  refine rr_icmp_ge (tgt := 39) dX8_removeLoan_17 rfl (by decide) (fun hc17 => ?_) (fun hc17 => ?_)
  · have hh := hh.1 hc17
    refine rr_aload_n dX8_removeLoan_39 rfl rfl ?_
    refine rr_dup dX8_removeLoan_40 rfl rfl ?_
    refine rr_getI cf_X8 (j := 5) (by decide) dX8_removeLoan_41 rfl q_42 hh (fun n3 hh => ?_)
    refine rr_iconst dX8_removeLoan_44 rfl ⟨by decide, by decide⟩ ?_
    obtain ⟨hz4, hh⟩ := hh
    refine rr_isub dX8_removeLoan_45 rfl hz4 ?_
    refine rr_put cf_X8 (j := 5) (by decide) dX8_removeLoan_46 rfl q_42 rfl (fty := .int) (by decide +kernel) rfl rfl hh (fun h5 hh => ?_)
    exact rr_vret dX8_removeLoan_49 rfl hh
  · have hh := hh.2 hc17
    refine rr_aload_n dX8_removeLoan_20 rfl rfl ?_
    refine rr_getR cf_X8 (j := 1) (by decide) dX8_removeLoan_21 rfl q_36 hh (fun r6 hh => ?_)
    refine rr_iload_n dX8_removeLoan_24 rfl rfl ?_
    refine rr_aload_n dX8_removeLoan_25 rfl rfl ?_
    refine rr_iload_n dX8_removeLoan_26 rfl rfl ?_
    refine rr_iconst dX8_removeLoan_27 rfl ⟨by decide, by decide⟩ ?_
    obtain ⟨hz7, hh⟩ := hh
    refine rr_iadd dX8_removeLoan_28 rfl hz7 ?_
    refine rr_callW (bc' := bc) (bs' := bs) (q := (some x0)) (av := [vI (x2 + 1)]) (st := [vI x2, vR r6]) mf_X8_loanAt dX8_removeLoan_29 rfl q_534 q_503 q_504 ⟨_, _, rfl⟩ rfl (cs_le _ (Nat.le_of_ble_eq_true rfl)) (Nat.le_refl _) (Nat.le_refl _) hh (rr_kR fun r9 h8 hh => ?_)
    refine rr_aast dX8_removeLoan_32 rfl hh (fun h10 hh => ?_)
    obtain ⟨hz11, hh⟩ := hh
    refine rr_iinc (ls' := [some (vR (some x0)), some (vI x1), some (vI (x2 + 1))]) dX8_removeLoan_33 rfl rfl (by decide) (fun _ z => by cases z) hz11 rfl ?_
    refine rr_goto (pc' := 11) dX8_removeLoan_36 (by decide) ?_
    exact hh
theorem dX8_developed_0 : decode cX8_developed 0 = .ok (.lload_n 1, 1) := by decide +kernel
theorem dX8_developed_1 : decode cX8_developed 1 = .ok (.lstore 6, 2) := by decide +kernel
theorem dX8_developed_3 : decode cX8_developed 3 = .ok (.aload_n 0, 1) := by decide +kernel
theorem dX8_developed_4 : decode cX8_developed 4 = .ok (.getfield 11, 3) := by decide +kernel
theorem dX8_developed_7 : decode cX8_developed 7 = .ok (.astore 8, 2) := by decide +kernel
theorem dX8_developed_9 : decode cX8_developed 9 = .ok (.aload 8, 2) := by decide +kernel
theorem dX8_developed_11 : decode cX8_developed 11 = .ok (.arraylength, 1) := by decide +kernel
theorem dX8_developed_12 : decode cX8_developed 12 = .ok (.istore 9, 2) := by decide +kernel
theorem dX8_developed_14 : decode cX8_developed 14 = .ok (.iconst 0, 1) := by decide +kernel
theorem dX8_developed_15 : decode cX8_developed 15 = .ok (.istore 10, 2) := by decide +kernel
theorem dX8_developed_17 : decode cX8_developed 17 = .ok (.iload 10, 2) := by decide +kernel
theorem dX8_developed_19 : decode cX8_developed 19 = .ok (.iload 9, 2) := by decide +kernel
theorem dX8_developed_21 : decode cX8_developed 21 = .ok (.if_icmp .ge 59, 3) := by decide +kernel
theorem dX8_developed_24 : decode cX8_developed 24 = .ok (.aload 8, 2) := by decide +kernel
theorem dX8_developed_26 : decode cX8_developed 26 = .ok (.iload 10, 2) := by decide +kernel
theorem dX8_developed_28 : decode cX8_developed 28 = .ok (.aaload, 1) := by decide +kernel
theorem dX8_developed_29 : decode cX8_developed 29 = .ok (.astore 11, 2) := by decide +kernel
theorem dX8_developed_31 : decode cX8_developed 31 = .ok (.aload 11, 2) := by decide +kernel
theorem dX8_developed_33 : decode cX8_developed 33 = .ok (.ifnull 41, 3) := by decide +kernel
theorem dX8_developed_36 : decode cX8_developed 36 = .ok (.aload 11, 2) := by decide +kernel
theorem dX8_developed_38 : decode cX8_developed 38 = .ok (.getfield 46, 3) := by decide +kernel
theorem dX8_developed_41 : decode cX8_developed 41 = .ok (.iload_n 3, 1) := by decide +kernel
theorem dX8_developed_42 : decode cX8_developed 42 = .ok (.if_icmp .ne 32, 3) := by decide +kernel
theorem dX8_developed_45 : decode cX8_developed 45 = .ok (.aload 11, 2) := by decide +kernel
theorem dX8_developed_47 : decode cX8_developed 47 = .ok (.getfield 49, 3) := by decide +kernel
theorem dX8_developed_50 : decode cX8_developed 50 = .ok (.iload 4, 2) := by decide +kernel
theorem dX8_developed_52 : decode cX8_developed 52 = .ok (.if_icmp .le 22, 3) := by decide +kernel
theorem dX8_developed_55 : decode cX8_developed 55 = .ok (.aload 11, 2) := by decide +kernel
theorem dX8_developed_57 : decode cX8_developed 57 = .ok (.getfield 49, 3) := by decide +kernel
theorem dX8_developed_60 : decode cX8_developed 60 = .ok (.iload 5, 2) := by decide +kernel
theorem dX8_developed_62 : decode cX8_developed 62 = .ok (.if_icmp .gt 12, 3) := by decide +kernel
theorem dX8_developed_65 : decode cX8_developed 65 = .ok (.aload 11, 2) := by decide +kernel
theorem dX8_developed_67 : decode cX8_developed 67 = .ok (.lload 6, 2) := by decide +kernel
theorem dX8_developed_69 : decode cX8_developed 69 = .ok (.invokevirtual 71, 3) := by decide +kernel
theorem dX8_developed_72 : decode cX8_developed 72 = .ok (.lstore 6, 2) := by decide +kernel
theorem dX8_developed_74 : decode cX8_developed 74 = .ok (.iinc 10 1, 3) := by decide +kernel
theorem dX8_developed_77 : decode cX8_developed 77 = .ok (.goto (-60), 3) := by decide +kernel
theorem dX8_developed_80 : decode cX8_developed 80 = .ok (.lload 6, 2) := by decide +kernel
theorem dX8_developed_82 : decode cX8_developed 82 = .ok (.lreturn, 1) := by decide +kernel
set_option maxRecDepth 100000 in
theorem B_X8_developed_0 {d : Nat} {h : AbH} {K : Option AbV → AbH → Prop} {x0 : Nat} {x1 : Int} {x3 : Int} {x4 : Int} {x5 : Int} (hh : wpGR h (some x0) 7 0 (fun r1 => wpNR h r1 (fun n2 => Vx (d + 1) m_X8_developed 0 0 17 [some (vR (some x0)), some (vL x1), none, some (vI x3), some (vI x4), some (vI x5), some (vL x1), none, some (vR r1), some (vI n2), some (vI 0), none] [] h K))) : Vx (d + 1) m_X8_developed 0 0 0 [some (vR (some x0)), some (vL x1), none, some (vI x3), some (vI x4), some (vI x5)] [] h K := by
  refine Vx.pad 6 [some (vR (some x0)), some (vL x1), none, some (vI x3), some (vI x4), some (vI x5), none, none, none, none, none, none] rfl ?_
  refine rr_lload_n dX8_developed_0 rfl rfl ?_
  refine rr_lstore (ls' := [some (vR (some x0)), some (vL x1), none, some (vI x3), some (vI x4), some (vI x5), some (vL x1), none, none, none, none, none]) dX8_developed_1 rfl (by decide) (fun _ z => by cases z) rfl ?_
  refine rr_aload_n dX8_developed_3 rfl rfl ?_
  refine rr_getR cf_X8 (j := 0) (by decide) dX8_developed_4 rfl q_35 hh (fun r1 hh => ?_)
  refine rr_astore (ls' := [some (vR (some x0)), some (vL x1), none, some (vI x3), some (vI x4), some (vI x5), some (vL x1), none, some (vR r1), none, none, none]) dX8_developed_7 rfl (by decide) (fun _ z => by cases z) rfl ?_
  refine rr_aload dX8_developed_9 rfl rfl ?_
  refine rr_alenR dX8_developed_11 rfl hh (fun n2 hh => ?_)
  refine rr_istore (ls' := [some (vR (some x0)), some (vL x1), none, some (vI x3), some (vI x4), some (vI x5), some (vL x1), none, some (vR r1), some (vI n2), none, none]) dX8_developed_12 rfl (by decide) (fun _ z => by cases z) rfl ?_
  refine rr_iconst dX8_developed_14 rfl ⟨by decide, by decide⟩ ?_
  refine rr_istore (ls' := [some (vR (some x0)), some (vL x1), none, some (vI x3), some (vI x4), some (vI x5), some (vL x1), none, some (vR r1), some (vI n2), some (vI 0), none]) dX8_developed_15 rfl (by decide) (fun _ z => by cases z) rfl ?_
  exact hh
set_option maxRecDepth 100000 in
theorem B_X8_developed_17 {d : Nat} {h : AbH} {K : Option AbV → AbH → Prop} {x0 : Nat} {x1 : Int} {x3 : Int} {x4 : Int} {x5 : Int} {x6 : Int} {x8 : Option Nat} {x9 : Int} {x10 : Int} {bc bs : Nat} (hh : ((x9 ≤ x10 → K (some (vL x6)) h) ∧ (¬ (x9 ≤ x10) → wpLR h x8 x10 (fun r1 => ((r1 = none → in32 (x10 + 1) ∧ Vx (d + 1) m_X8_developed bc bs 17 [some (vR (some x0)), some (vL x1), none, some (vI x3), some (vI x4), some (vI x5), some (vL x6), none, some (vR x8), some (vI x9), some (vI (x10 + 1)), none] [] h K) ∧ (¬ (r1 = none) → wpGI h r1 0 0 (fun n3 => ((n3 ≠ x3 → in32 (x10 + 1) ∧ Vx (d + 1) m_X8_developed bc bs 17 [some (vR (some x0)), some (vL x1), none, some (vI x3), some (vI x4), some (vI x5), some (vL x6), none, some (vR x8), some (vI x9), some (vI (x10 + 1)), none] [] h K) ∧ (¬ (n3 ≠ x3) → wpGI h r1 0 1 (fun n5 => ((n5 ≤ x4 → in32 (x10 + 1) ∧ Vx (d + 1) m_X8_developed bc bs 17 [some (vR (some x0)), some (vL x1), none, some (vI x3), some (vI x4), some (vI x5), some (vL x6), none, some (vR x8), some (vI x9), some (vI (x10 + 1)), none] [] h K) ∧ (¬ (n5 ≤ x4) → wpGI h r1 0 1 (fun n7 => ((x5 < n7 → in32 (x10 + 1) ∧ Vx (d + 1) m_X8_developed bc bs 17 [some (vR (some x0)), some (vL x1), none, some (vI x3), some (vI x4), some (vI x5), some (vL x6), none, some (vR x8), some (vI x9), some (vI (x10 + 1)), none] [] h K) ∧ (¬ (x5 < n7) → wpCV h r1 0 (fun b12 => Vm d m_X1_applied [vR (some b12), vL x6] h (kL (fun n10 h9 => in32 (x10 + 1) ∧ Vx (d + 1) m_X8_developed bc bs 17 [some (vR (some x0)), some (vL x1), none, some (vI x3), some (vI x4), some (vI x5), some (vL n10), none, some (vR x8), some (vI x9), some (vI (x10 + 1)), none] [] h9 K)))))))))))))))))) : Vx (d + 1) m_X8_developed bc bs 17 [some (vR (some x0)), some (vL x1), none, some (vI x3), some (vI x4), some (vI x5), some (vL x6), none, some (vR x8), some (vI x9), some (vI x10), none] [] h K := by
  refine rr_iload dX8_developed_17 rfl rfl ?_
  refine rr_iload dX8_developed_19 rfl rfl ?_
  refine rr_icmp_ge (tgt := 80) dX8_developed_21 rfl (by decide) (fun hc21 => ?_) (fun hc21 => ?_)
  · have hh := hh.1 hc21
    refine rr_lload dX8_developed_80 rfl rfl ?_
    exact rr_lret dX8_developed_82 rfl hh
  · have hh := hh.2 hc21
    refine rr_aload dX8_developed_24 rfl rfl ?_
    refine rr_iload dX8_developed_26 rfl rfl ?_
    refine rr_aald dX8_developed_28 rfl hh (fun r1 hh => ?_)
    refine rr_astore (ls' := [some (vR (some x0)), some (vL x1), none, some (vI x3), some (vI x4), some (vI x5), some (vL x6), none, some (vR x8), some (vI x9), some (vI x10), some (vR r1)]) dX8_developed_29 rfl (by decide) (fun _ z => by cases z) rfl ?_
    refine rr_aload dX8_developed_31 rfl rfl ?_
    refine rr_ifnull (tgt := 74) dX8_developed_33 rfl (by decide) (fun hc33 => ?_) (fun hc33 => ?_)
    · have hh := hh.1 hc33
      obtain ⟨hz2, hh⟩ := hh
      refine rr_iinc (ls' := [some (vR (some x0)), some (vL x1), none, some (vI x3), some (vI x4), some (vI x5), some (vL x6), none, some (vR x8), some (vI x9), some (vI (x10 + 1)), some (vR r1)]) dX8_developed_74 rfl rfl (by decide) (fun _ z => by cases z) hz2 rfl ?_
      refine rr_goto (pc' := 17) dX8_developed_77 (by decide) ?_
      exact Vx.forget (ls' := [some (vR (some x0)), some (vL x1), none, some (vI x3), some (vI x4), some (vI x5), some (vL x6), none, some (vR x8), some (vI x9), some (vI (x10 + 1)), none]) (And.intro rfl (And.intro rfl (And.intro rfl (And.intro rfl (And.intro rfl (And.intro rfl (And.intro rfl (And.intro rfl (And.intro rfl trivial))))))))) hh
    · have hh := hh.2 hc33
      refine rr_aload dX8_developed_36 rfl rfl ?_
      refine rr_getI cf_X1 (j := 0) (by decide) dX8_developed_38 rfl q_334 hh (fun n3 hh => ?_)
      refine rr_iload_n dX8_developed_41 rfl rfl ?_
      refine rr_icmp_ne (tgt := 74) dX8_developed_42 rfl (by decide) (fun hc42 => ?_) (fun hc42 => ?_)
      · have hh := hh.1 hc42
        obtain ⟨hz4, hh⟩ := hh
        refine rr_iinc (ls' := [some (vR (some x0)), some (vL x1), none, some (vI x3), some (vI x4), some (vI x5), some (vL x6), none, some (vR x8), some (vI x9), some (vI (x10 + 1)), some (vR r1)]) dX8_developed_74 rfl rfl (by decide) (fun _ z => by cases z) hz4 rfl ?_
        refine rr_goto (pc' := 17) dX8_developed_77 (by decide) ?_
        exact Vx.forget (ls' := [some (vR (some x0)), some (vL x1), none, some (vI x3), some (vI x4), some (vI x5), some (vL x6), none, some (vR x8), some (vI x9), some (vI (x10 + 1)), none]) (And.intro rfl (And.intro rfl (And.intro rfl (And.intro rfl (And.intro rfl (And.intro rfl (And.intro rfl (And.intro rfl (And.intro rfl trivial))))))))) hh
      · have hh := hh.2 hc42
        refine rr_aload dX8_developed_45 rfl rfl ?_
        refine rr_getI cf_X1 (j := 1) (by decide) dX8_developed_47 rfl q_339 hh (fun n5 hh => ?_)
        refine rr_iload dX8_developed_50 rfl rfl ?_
        refine rr_icmp_le (tgt := 74) dX8_developed_52 rfl (by decide) (fun hc52 => ?_) (fun hc52 => ?_)
        · have hh := hh.1 hc52
          obtain ⟨hz6, hh⟩ := hh
          refine rr_iinc (ls' := [some (vR (some x0)), some (vL x1), none, some (vI x3), some (vI x4), some (vI x5), some (vL x6), none, some (vR x8), some (vI x9), some (vI (x10 + 1)), some (vR r1)]) dX8_developed_74 rfl rfl (by decide) (fun _ z => by cases z) hz6 rfl ?_
          refine rr_goto (pc' := 17) dX8_developed_77 (by decide) ?_
          exact Vx.forget (ls' := [some (vR (some x0)), some (vL x1), none, some (vI x3), some (vI x4), some (vI x5), some (vL x6), none, some (vR x8), some (vI x9), some (vI (x10 + 1)), none]) (And.intro rfl (And.intro rfl (And.intro rfl (And.intro rfl (And.intro rfl (And.intro rfl (And.intro rfl (And.intro rfl (And.intro rfl trivial))))))))) hh
        · have hh := hh.2 hc52
          refine rr_aload dX8_developed_55 rfl rfl ?_
          refine rr_getI cf_X1 (j := 1) (by decide) dX8_developed_57 rfl q_339 hh (fun n7 hh => ?_)
          refine rr_iload dX8_developed_60 rfl rfl ?_
          refine rr_icmp_gt (tgt := 74) dX8_developed_62 rfl (by decide) (fun hc62 => ?_) (fun hc62 => ?_)
          · have hh := hh.1 hc62
            obtain ⟨hz8, hh⟩ := hh
            refine rr_iinc (ls' := [some (vR (some x0)), some (vL x1), none, some (vI x3), some (vI x4), some (vI x5), some (vL x6), none, some (vR x8), some (vI x9), some (vI (x10 + 1)), some (vR r1)]) dX8_developed_74 rfl rfl (by decide) (fun _ z => by cases z) hz8 rfl ?_
            refine rr_goto (pc' := 17) dX8_developed_77 (by decide) ?_
            exact Vx.forget (ls' := [some (vR (some x0)), some (vL x1), none, some (vI x3), some (vI x4), some (vI x5), some (vL x6), none, some (vR x8), some (vI x9), some (vI (x10 + 1)), none]) (And.intro rfl (And.intro rfl (And.intro rfl (And.intro rfl (And.intro rfl (And.intro rfl (And.intro rfl (And.intro rfl (And.intro rfl trivial))))))))) hh
          · have hh := hh.2 hc62
            refine rr_aload dX8_developed_65 rfl rfl ?_
            refine rr_lload dX8_developed_67 rfl rfl ?_
            refine rr_callW (bc' := bc) (bs' := bs) (q := r1) (av := [vL x6]) (st := []) mf_X1_applied dX8_developed_69 rfl q_515 q_516 q_517 ⟨_, _, rfl⟩ rfl (by decide) (Nat.le_refl _) (Nat.le_refl _) hh (rr_kL fun n10 h9 hh => ?_)
            refine rr_lstore (ls' := [some (vR (some x0)), some (vL x1), none, some (vI x3), some (vI x4), some (vI x5), some (vL n10), none, some (vR x8), some (vI x9), some (vI x10), some (vR r1)]) dX8_developed_72 rfl (by decide) (fun _ z => by cases z) rfl ?_
            obtain ⟨hz11, hh⟩ := hh
            refine rr_iinc (ls' := [some (vR (some x0)), some (vL x1), none, some (vI x3), some (vI x4), some (vI x5), some (vL n10), none, some (vR x8), some (vI x9), some (vI (x10 + 1)), some (vR r1)]) dX8_developed_74 rfl rfl (by decide) (fun _ z => by cases z) hz11 rfl ?_
            refine rr_goto (pc' := 17) dX8_developed_77 (by decide) ?_
            exact Vx.forget (ls' := [some (vR (some x0)), some (vL x1), none, some (vI x3), some (vI x4), some (vI x5), some (vL n10), none, some (vR x8), some (vI x9), some (vI (x10 + 1)), none]) (And.intro rfl (And.intro rfl (And.intro rfl (And.intro rfl (And.intro rfl (And.intro rfl (And.intro rfl (And.intro rfl (And.intro rfl trivial))))))))) hh
theorem dX8_borrowed_0 : decode cX8_borrowed 0 = .ok (.aload_n 0, 1) := by decide +kernel
theorem dX8_borrowed_1 : decode cX8_borrowed 1 = .ok (.aload_n 0, 1) := by decide +kernel
theorem dX8_borrowed_2 : decode cX8_borrowed 2 = .ok (.lload_n 1, 1) := by decide +kernel
theorem dX8_borrowed_3 : decode cX8_borrowed 3 = .ok (.iload_n 3, 1) := by decide +kernel
theorem dX8_borrowed_4 : decode cX8_borrowed 4 = .ok (.iconst 0, 1) := by decide +kernel
theorem dX8_borrowed_5 : decode cX8_borrowed 5 = .ok (.iload 5, 2) := by decide +kernel
theorem dX8_borrowed_7 : decode cX8_borrowed 7 = .ok (.invokevirtual 75, 3) := by decide +kernel
theorem dX8_borrowed_10 : decode cX8_borrowed 10 = .ok (.iload 4, 2) := by decide +kernel
theorem dX8_borrowed_12 : decode cX8_borrowed 12 = .ok (.iload 5, 2) := by decide +kernel
theorem dX8_borrowed_14 : decode cX8_borrowed 14 = .ok (.bipush 99, 2) := by decide +kernel
theorem dX8_borrowed_16 : decode cX8_borrowed 16 = .ok (.invokevirtual 75, 3) := by decide +kernel
theorem dX8_borrowed_19 : decode cX8_borrowed 19 = .ok (.lreturn, 1) := by decide +kernel
set_option maxRecDepth 100000 in
theorem B_X8_borrowed_0 {d : Nat} {h : AbH} {K : Option AbV → AbH → Prop} {x0 : Nat} {x1 : Int} {x3 : Int} {x4 : Int} {x5 : Int} (hh : wpCV h (some x0) 7 (fun b6 => Vm d m_X8_developed [vR (some b6), vL x1, vI x3, vI 0, vI x5] h (kL (fun n2 h1 => wpCV h1 (some x0) 7 (fun b5 => Vm d m_X8_developed [vR (some b5), vL n2, vI x4, vI x5, vI 99] h1 (kL (fun n4 h3 => K (some (vL n4)) h3))))))) : Vx (d + 1) m_X8_borrowed 0 0 0 [some (vR (some x0)), some (vL x1), none, some (vI x3), some (vI x4), some (vI x5)] [] h K := by
  refine rr_aload_n dX8_borrowed_0 rfl rfl ?_
  refine rr_aload_n dX8_borrowed_1 rfl rfl ?_
  refine rr_lload_n dX8_borrowed_2 rfl rfl ?_
  refine rr_iload_n dX8_borrowed_3 rfl rfl ?_
  refine rr_iconst dX8_borrowed_4 rfl ⟨by decide, by decide⟩ ?_
  refine rr_iload dX8_borrowed_5 rfl rfl ?_
  refine rr_callW (bc' := 0) (bs' := 0) (q := (some x0)) (av := [vL x1, vI x3, vI 0, vI x5]) (st := [vR (some x0)]) mf_X8_developed dX8_borrowed_7 rfl q_511 q_512 q_513 ⟨_, _, rfl⟩ rfl (show 1 ≤ 8 by decide) (Nat.le_refl _) (Nat.le_refl _) hh (rr_kL fun n2 h1 hh => ?_)
  refine rr_iload dX8_borrowed_10 rfl rfl ?_
  refine rr_iload dX8_borrowed_12 rfl rfl ?_
  refine rr_bipush dX8_borrowed_14 rfl ⟨by decide, by decide⟩ rfl ?_
  refine rr_callW (bc' := 0) (bs' := 0) (q := (some x0)) (av := [vL n2, vI x4, vI x5, vI 99]) (st := []) mf_X8_developed dX8_borrowed_16 rfl q_511 q_512 q_513 ⟨_, _, rfl⟩ rfl (by decide) (Nat.le_refl _) (Nat.le_refl _) hh (rr_kL fun n4 h3 hh => ?_)
  exact rr_lret dX8_borrowed_19 rfl hh
theorem dX7_init_0 : decode cX7_init 0 = .ok (.aload_n 0, 1) := by decide +kernel
theorem dX7_init_1 : decode cX7_init 1 = .ok (.invokespecial 3, 3) := by decide +kernel
theorem dX7_init_4 : decode cX7_init 4 = .ok (.aload_n 0, 1) := by decide +kernel
theorem dX7_init_5 : decode cX7_init 5 = .ok (.bipush 17, 2) := by decide +kernel
theorem dX7_init_7 : decode cX7_init 7 = .ok (.newarray .int, 2) := by decide +kernel
theorem dX7_init_9 : decode cX7_init 9 = .ok (.putfield 9, 3) := by decide +kernel
theorem dX7_init_12 : decode cX7_init 12 = .ok (.aload_n 0, 1) := by decide +kernel
theorem dX7_init_13 : decode cX7_init 13 = .ok (.bipush 17, 2) := by decide +kernel
theorem dX7_init_15 : decode cX7_init 15 = .ok (.newarray .int, 2) := by decide +kernel
theorem dX7_init_17 : decode cX7_init 17 = .ok (.putfield 15, 3) := by decide +kernel
theorem dX7_init_20 : decode cX7_init 20 = .ok (.aload_n 0, 1) := by decide +kernel
theorem dX7_init_21 : decode cX7_init 21 = .ok (.iconst 0, 1) := by decide +kernel
theorem dX7_init_22 : decode cX7_init 22 = .ok (.putfield 18, 3) := by decide +kernel
theorem dX7_init_25 : decode cX7_init 25 = .ok (.return_, 1) := by decide +kernel
set_option maxRecDepth 100000 in
theorem B_X7_init_0 {d : Nat} {h : AbH} {K : Option AbV → AbH → Prop} {x0 : Nat} (hh : ∀ q1 : Nat, ab_new h q1 → ∀ h2 : AbH, h2 = hsI h q1 (17, fun _ => 0) → wpP h2 (some x0) 6 0 (vR (some q1)) (fun h5 => ∀ q6 : Nat, ab_new h5 q6 → ∀ h7 : AbH, h7 = hsI h5 q6 (17, fun _ => 0) → wpP h7 (some x0) 6 1 (vR (some q6)) (fun h10 => wpP h10 (some x0) 6 2 (vI 0) (fun h11 => K none h11)))) : Vx (d + 1) m_X7_init 2 34 0 [some (vR (some x0))] [] h K := by
  refine rr_aload_n dX7_init_0 rfl rfl ?_
  refine rr_objInit dX7_init_1 rfl q_107 q_23 q_24 (by decide) ?_
  refine rr_aload_n dX7_init_4 rfl rfl ?_
  refine rr_bipush dX7_init_5 rfl ⟨by decide, by decide⟩ rfl ?_
  refine rr_newI (bc' := 1) (bs' := 17) (n := 17) dX7_init_7 rfl q_58 rfl (by decide) (by decide) (by decide) (fun q1 hz => ?_)
  have hh := hh q1 hz _ rfl
  generalize hsI h q1 (17, fun _ => 0) = h2 at hh ⊢
  refine rr_putF cf_X7 (j := 0) (by decide) dX7_init_9 rfl q_108 rfl rfl rfl (fty := .array (.int)) (by decide +kernel) (by first | rfl | exact rn_r _ _ (by first | exact Or.inl ⟨_, rfl⟩ | exact Or.inr ⟨_, rfl⟩)) (by first | rfl | exact rf_r _ _ (by first | exact Or.inl ⟨_, rfl⟩ | exact Or.inr ⟨_, rfl⟩)) hh (fun h5 hh => ?_)
  refine rr_aload_n dX7_init_12 rfl rfl ?_
  refine rr_bipush dX7_init_13 rfl ⟨by decide, by decide⟩ rfl ?_
  refine rr_newI (bc' := 0) (bs' := 0) (n := 17) dX7_init_15 rfl q_58 rfl (by decide) (by decide) (by decide) (fun q6 hz => ?_)
  have hh := hh q6 hz _ rfl
  generalize hsI h5 q6 (17, fun _ => 0) = h7 at hh ⊢
  refine rr_putF cf_X7 (j := 1) (by decide) dX7_init_17 rfl q_109 rfl rfl rfl (fty := .array (.int)) (by decide +kernel) (by first | rfl | exact rn_r _ _ (by first | exact Or.inl ⟨_, rfl⟩ | exact Or.inr ⟨_, rfl⟩)) (by first | rfl | exact rf_r _ _ (by first | exact Or.inl ⟨_, rfl⟩ | exact Or.inr ⟨_, rfl⟩)) hh (fun h10 hh => ?_)
  refine rr_aload_n dX7_init_20 rfl rfl ?_
  refine rr_iconst dX7_init_21 rfl ⟨by decide, by decide⟩ ?_
  refine rr_put cf_X7 (j := 2) (by decide) dX7_init_22 rfl q_110 rfl (fty := .int) (by decide +kernel) rfl rfl hh (fun h11 hh => ?_)
  exact rr_vret dX7_init_25 rfl hh
theorem dX7_of_0 : decode cX7_of 0 = .ok (.aload_n 0, 1) := by decide +kernel
theorem dX7_of_1 : decode cX7_of 1 = .ok (.iconst 0, 1) := by decide +kernel
theorem dX7_of_2 : decode cX7_of 2 = .ok (.putfield 18, 3) := by decide +kernel
theorem dX7_of_5 : decode cX7_of 5 = .ok (.aload_n 2, 1) := by decide +kernel
theorem dX7_of_6 : decode cX7_of 6 = .ok (.getfield 22, 3) := by decide +kernel
theorem dX7_of_9 : decode cX7_of 9 = .ok (.aload_n 2, 1) := by decide +kernel
theorem dX7_of_10 : decode cX7_of 10 = .ok (.getfield 27, 3) := by decide +kernel
theorem dX7_of_13 : decode cX7_of 13 = .ok (.invokestatic 30, 3) := by decide +kernel
theorem dX7_of_16 : decode cX7_of 16 = .ok (.istore_n 3, 1) := by decide +kernel
theorem dX7_of_17 : decode cX7_of 17 = .ok (.aload_n 1, 1) := by decide +kernel
theorem dX7_of_18 : decode cX7_of 18 = .ok (.iload_n 3, 1) := by decide +kernel
theorem dX7_of_19 : decode cX7_of 19 = .ok (.invokevirtual 34, 3) := by decide +kernel
theorem dX7_of_22 : decode cX7_of 22 = .ok (.istore 4, 2) := by decide +kernel
theorem dX7_of_24 : decode cX7_of 24 = .ok (.aload_n 1, 1) := by decide +kernel
theorem dX7_of_25 : decode cX7_of 25 = .ok (.iload_n 3, 1) := by decide +kernel
theorem dX7_of_26 : decode cX7_of 26 = .ok (.invokevirtual 40, 3) := by decide +kernel
theorem dX7_of_29 : decode cX7_of 29 = .ok (.iconst 1, 1) := by decide +kernel
theorem dX7_of_30 : decode cX7_of 30 = .ok (.iadd, 1) := by decide +kernel
theorem dX7_of_31 : decode cX7_of 31 = .ok (.istore 5, 2) := by decide +kernel
theorem dX7_of_33 : decode cX7_of 33 = .ok (.iload 4, 2) := by decide +kernel
theorem dX7_of_35 : decode cX7_of 35 = .ok (.iconst (-1), 1) := by decide +kernel
theorem dX7_of_36 : decode cX7_of 36 = .ok (.if_icmp .ne 5, 3) := by decide +kernel
theorem dX7_of_39 : decode cX7_of 39 = .ok (.aload_n 0, 1) := by decide +kernel
theorem dX7_of_40 : decode cX7_of 40 = .ok (.areturn, 1) := by decide +kernel
theorem dX7_of_41 : decode cX7_of 41 = .ok (.iconst 0, 1) := by decide +kernel
theorem dX7_of_42 : decode cX7_of 42 = .ok (.istore 6, 2) := by decide +kernel
theorem dX7_of_44 : decode cX7_of 44 = .ok (.iload 6, 2) := by decide +kernel
theorem dX7_of_46 : decode cX7_of 46 = .ok (.bipush 16, 2) := by decide +kernel
theorem dX7_of_48 : decode cX7_of 48 = .ok (.if_icmp .gt 89, 3) := by decide +kernel
theorem dX7_of_51 : decode cX7_of 51 = .ok (.aload_n 1, 1) := by decide +kernel
theorem dX7_of_52 : decode cX7_of 52 = .ok (.iload 6, 2) := by decide +kernel
theorem dX7_of_54 : decode cX7_of 54 = .ok (.invokevirtual 43, 3) := by decide +kernel
theorem dX7_of_57 : decode cX7_of 57 = .ok (.astore 7, 2) := by decide +kernel
theorem dX7_of_59 : decode cX7_of 59 = .ok (.aload 7, 2) := by decide +kernel
theorem dX7_of_61 : decode cX7_of 61 = .ok (.ifnonnull 8, 3) := by decide +kernel
theorem dX7_of_64 : decode cX7_of 64 = .ok (.iload 5, 2) := by decide +kernel
theorem dX7_of_66 : decode cX7_of 66 = .ok (.goto 13, 3) := by decide +kernel
theorem dX7_of_69 : decode cX7_of 69 = .ok (.aload 7, 2) := by decide +kernel
theorem dX7_of_71 : decode cX7_of 71 = .ok (.getfield 47, 3) := by decide +kernel
theorem dX7_of_74 : decode cX7_of 74 = .ok (.iload 5, 2) := by decide +kernel
theorem dX7_of_76 : decode cX7_of 76 = .ok (.invokestatic 52, 3) := by decide +kernel
theorem dX7_of_79 : decode cX7_of 79 = .ok (.istore 8, 2) := by decide +kernel
theorem dX7_of_81 : decode cX7_of 81 = .ok (.iload 8, 2) := by decide +kernel
theorem dX7_of_83 : decode cX7_of 83 = .ok (.iload 4, 2) := by decide +kernel
theorem dX7_of_85 : decode cX7_of 85 = .ok (.if_icmp .gt 6, 3) := by decide +kernel
theorem dX7_of_88 : decode cX7_of 88 = .ok (.goto 43, 3) := by decide +kernel
theorem dX7_of_91 : decode cX7_of 91 = .ok (.aload_n 1, 1) := by decide +kernel
theorem dX7_of_92 : decode cX7_of 92 = .ok (.aload_n 2, 1) := by decide +kernel
theorem dX7_of_93 : decode cX7_of 93 = .ok (.getfield 57, 3) := by decide +kernel
theorem dX7_of_96 : decode cX7_of 96 = .ok (.aload_n 2, 1) := by decide +kernel
theorem dX7_of_97 : decode cX7_of 97 = .ok (.getfield 22, 3) := by decide +kernel
theorem dX7_of_100 : decode cX7_of 100 = .ok (.aload_n 2, 1) := by decide +kernel
theorem dX7_of_101 : decode cX7_of 101 = .ok (.getfield 27, 3) := by decide +kernel
theorem dX7_of_104 : decode cX7_of 104 = .ok (.iload 4, 2) := by decide +kernel
theorem dX7_of_106 : decode cX7_of 106 = .ok (.invokevirtual 61, 3) := by decide +kernel
theorem dX7_of_109 : decode cX7_of 109 = .ok (.aload_n 2, 1) := by decide +kernel
theorem dX7_of_110 : decode cX7_of 110 = .ok (.getfield 65, 3) := by decide +kernel
theorem dX7_of_113 : decode cX7_of 113 = .ok (.lcmp, 1) := by decide +kernel
theorem dX7_of_114 : decode cX7_of 114 = .ok (.ifCond .ne 13, 3) := by decide +kernel
theorem dX7_of_117 : decode cX7_of 117 = .ok (.aload_n 0, 1) := by decide +kernel
theorem dX7_of_118 : decode cX7_of 118 = .ok (.iload 4, 2) := by decide +kernel
theorem dX7_of_120 : decode cX7_of 120 = .ok (.iload 8, 2) := by decide +kernel
theorem dX7_of_122 : decode cX7_of 122 = .ok (.iconst 1, 1) := by decide +kernel
theorem dX7_of_123 : decode cX7_of 123 = .ok (.isub, 1) := by decide +kernel
theorem dX7_of_124 : decode cX7_of 124 = .ok (.invokevirtual 68, 3) := by decide +kernel
theorem dX7_of_127 : decode cX7_of 127 = .ok (.iload 8, 2) := by decide +kernel
theorem dX7_of_129 : decode cX7_of 129 = .ok (.istore 4, 2) := by decide +kernel
theorem dX7_of_131 : decode cX7_of 131 = .ok (.iinc 6 1, 3) := by decide +kernel
theorem dX7_of_134 : decode cX7_of 134 = .ok (.goto (-90), 3) := by decide +kernel
theorem dX7_of_137 : decode cX7_of 137 = .ok (.aload_n 0, 1) := by decide +kernel
theorem dX7_of_138 : decode cX7_of 138 = .ok (.areturn, 1) := by decide +kernel
set_option maxRecDepth 100000 in
theorem B_X7_of_0 {d : Nat} {h : AbH} {K : Option AbV → AbH → Prop} {x0 : Nat} {x1 : Option Nat} {x2 : Option Nat} (hh : wpP h (some x0) 6 2 (vI 0) (fun h1 => wpGI h1 x2 2 0 (fun n2 => wpGI h1 x2 2 1 (fun n3 => Vm d m_X9_pairOf [vI n2, vI n3] h1 (kI (fun n5 h4 => wpCV h4 x1 7 (fun b12 => Vm d m_X8_firstOf [vR (some b12), vI n5] h4 (kI (fun n7 h6 => wpCV h6 x1 7 (fun b11 => Vm d m_X8_lastOf [vR (some b11), vI n5] h6 (kI (fun n9 h8 => in32 (n9 + 1) ∧ ((n7 ≠ (-1) → Vx (d + 1) m_X7_of 0 0 44 [some (vR (some x0)), some (vR x1), some (vR x2), some (vI n5), some (vI n7), some (vI (n9 + 1)), some (vI 0), none, none] [] h8 K) ∧ (¬ (n7 ≠ (-1)) → K (some (vR (some x0))) h8)))))))))))))) : Vx (d + 1) m_X7_of 0 0 0 [some (vR (some x0)), some (vR x1), some (vR x2)] [] h K := by
  refine Vx.pad 6 [some (vR (some x0)), some (vR x1), some (vR x2), none, none, none, none, none, none] rfl ?_
  refine rr_aload_n dX7_of_0 rfl rfl ?_
  refine rr_iconst dX7_of_1 rfl ⟨by decide, by decide⟩ ?_
  refine rr_put cf_X7 (j := 2) (by decide) dX7_of_2 rfl q_110 rfl (fty := .int) (by decide +kernel) rfl rfl hh (fun h1 hh => ?_)
  refine rr_aload_n dX7_of_5 rfl rfl ?_
  refine rr_getI cf_X3 (j := 0) (by decide) dX7_of_6 rfl q_407 hh (fun n2 hh => ?_)
  refine rr_aload_n dX7_of_9 rfl rfl ?_
  refine rr_getI cf_X3 (j := 1) (by decide) dX7_of_10 rfl q_410 hh (fun n3 hh => ?_)
  refine rr_callSN (bc' := 0) (bs' := 0) (av := [vI n2, vI n3]) (st := []) mf_X9_pairOf dX7_of_13 rfl qn_9 q_381 rfl (by decide) (Nat.le_refl _) (Nat.le_refl _) hh (rr_kI fun n5 h4 hh => ?_)
  refine rr_istore_n (ls' := [some (vR (some x0)), some (vR x1), some (vR x2), some (vI n5), none, none, none, none, none]) dX7_of_16 rfl (by decide) (fun _ z => by cases z) rfl ?_
  refine rr_aload_n dX7_of_17 rfl rfl ?_
  refine rr_iload_n dX7_of_18 rfl rfl ?_
  refine rr_callW (bc' := 0) (bs' := 0) (q := x1) (av := [vI n5]) (st := []) mf_X8_firstOf dX7_of_19 rfl q_581 q_495 q_496 ⟨_, _, rfl⟩ rfl (by decide) (Nat.le_refl _) (Nat.le_refl _) hh (rr_kI fun n7 h6 hh => ?_)
  refine rr_istore (ls' := [some (vR (some x0)), some (vR x1), some (vR x2), some (vI n5), some (vI n7), none, none, none, none]) dX7_of_22 rfl (by decide) (fun _ z => by cases z) rfl ?_
  refine rr_aload_n dX7_of_24 rfl rfl ?_
  refine rr_iload_n dX7_of_25 rfl rfl ?_
  refine rr_callW (bc' := 0) (bs' := 0) (q := x1) (av := [vI n5]) (st := []) mf_X8_lastOf dX7_of_26 rfl q_582 q_565 q_566 ⟨_, _, rfl⟩ rfl (by decide) (Nat.le_refl _) (Nat.le_refl _) hh (rr_kI fun n9 h8 hh => ?_)
  refine rr_iconst dX7_of_29 rfl ⟨by decide, by decide⟩ ?_
  obtain ⟨hz10, hh⟩ := hh
  refine rr_iadd dX7_of_30 rfl hz10 ?_
  refine rr_istore (ls' := [some (vR (some x0)), some (vR x1), some (vR x2), some (vI n5), some (vI n7), some (vI (n9 + 1)), none, none, none]) dX7_of_31 rfl (by decide) (fun _ z => by cases z) rfl ?_
  refine rr_iload dX7_of_33 rfl rfl ?_
  refine rr_iconst dX7_of_35 rfl ⟨by decide, by decide⟩ ?_
  refine rr_icmp_ne (tgt := 41) dX7_of_36 rfl (by decide) (fun hc36 => ?_) (fun hc36 => ?_)
  · have hh := hh.1 hc36
    refine rr_iconst dX7_of_41 rfl ⟨by decide, by decide⟩ ?_
    refine rr_istore (ls' := [some (vR (some x0)), some (vR x1), some (vR x2), some (vI n5), some (vI n7), some (vI (n9 + 1)), some (vI 0), none, none]) dX7_of_42 rfl (by decide) (fun _ z => by cases z) rfl ?_
    exact hh
  · have hh := hh.2 hc36
    refine rr_aload_n dX7_of_39 rfl rfl ?_
    exact rr_aret dX7_of_40 rfl (Or.inl ⟨_, rfl⟩) hh
set_option maxRecDepth 100000 in
theorem B_X7_of_44 {d : Nat} {h : AbH} {K : Option AbV → AbH → Prop} {x0 : Nat} {x1 : Option Nat} {x2 : Option Nat} {x3 : Int} {x4 : Int} {x5 : Int} {x6 : Int} {bc bs : Nat} (hh : ((16 < x6 → K (some (vR (some x0))) h) ∧ (¬ (16 < x6) → wpCV h x1 7 (fun b30 => Vm d m_X8_lawAt [vR (some b30), vI x6] h (kR (fun r2 h1 => ((r2 ≠ none → wpGI h1 r2 0 1 (fun n3 => ((x4 < (if x5 < n3 then x5 else n3) → wpGL h1 x2 2 2 (fun n4 => wpGI h1 x2 2 0 (fun n5 => wpGI h1 x2 2 1 (fun n6 => wpCV h1 x1 7 (fun b15 => Vm d m_X8_borrowed [vR (some b15), vL n4, vI n5, vI n6, vI x4] h1 (kL (fun n8 h7 => wpGL h7 x2 2 3 (fun n9 => ((n8 ≠ n9 → in32 (x6 + 1) ∧ Vx (d + 1) m_X7_of bc bs 44 [some (vR (some x0)), some (vR x1), some (vR x2), some (vI x3), some (vI (if x5 < n3 then x5 else n3)), some (vI x5), some (vI (x6 + 1)), none, none] [] h7 K) ∧ (¬ (n8 ≠ n9) → in32 ((if x5 < n3 then x5 else n3) - 1) ∧ wpCV h7 (some x0) 6 (fun b14 => Vm d m_X7_add [vR (some b14), vI x4, vI ((if x5 < n3 then x5 else n3) - 1)] h7 (kV (fun h12 => in32 (x6 + 1) ∧ Vx (d + 1) m_X7_of bc bs 44 [some (vR (some x0)), some (vR x1), some (vR x2), some (vI x3), some (vI (if x5 < n3 then x5 else n3)), some (vI x5), some (vI (x6 + 1)), none, none] [] h12 K))))))))))))) ∧ (¬ (x4 < (if x5 < n3 then x5 else n3)) → in32 (x6 + 1) ∧ Vx (d + 1) m_X7_of bc bs 44 [some (vR (some x0)), some (vR x1), some (vR x2), some (vI x3), some (vI x4), some (vI x5), some (vI (x6 + 1)), none, none] [] h1 K)))) ∧ (¬ (r2 ≠ none) → ((x4 < x5 → wpGL h1 x2 2 2 (fun n17 => wpGI h1 x2 2 0 (fun n18 => wpGI h1 x2 2 1 (fun n19 => wpCV h1 x1 7 (fun b28 => Vm d m_X8_borrowed [vR (some b28), vL n17, vI n18, vI n19, vI x4] h1 (kL (fun n21 h20 => wpGL h20 x2 2 3 (fun n22 => ((n21 ≠ n22 → in32 (x6 + 1) ∧ Vx (d + 1) m_X7_of bc bs 44 [some (vR (some x0)), some (vR x1), some (vR x2), some (vI x3), some (vI x5), some (vI x5), some (vI (x6 + 1)), none, none] [] h20 K) ∧ (¬ (n21 ≠ n22) → in32 (x5 - 1) ∧ wpCV h20 (some x0) 6 (fun b27 => Vm d m_X7_add [vR (some b27), vI x4, vI (x5 - 1)] h20 (kV (fun h25 => in32 (x6 + 1) ∧ Vx (d + 1) m_X7_of bc bs 44 [some (vR (some x0)), some (vR x1), some (vR x2), some (vI x3), some (vI x5), some (vI x5), some (vI (x6 + 1)), none, none] [] h25 K))))))))))))) ∧ (¬ (x4 < x5) → in32 (x6 + 1) ∧ Vx (d + 1) m_X7_of bc bs 44 [some (vR (some x0)), some (vR x1), some (vR x2), some (vI x3), some (vI x4), some (vI x5), some (vI (x6 + 1)), none, none] [] h1 K)))))))))) : Vx (d + 1) m_X7_of bc bs 44 [some (vR (some x0)), some (vR x1), some (vR x2), some (vI x3), some (vI x4), some (vI x5), some (vI x6), none, none] [] h K := by
  refine rr_iload dX7_of_44 rfl rfl ?_
  refine rr_bipush dX7_of_46 rfl ⟨by decide, by decide⟩ rfl ?_
  refine rr_icmp_gt (tgt := 137) dX7_of_48 rfl (by decide) (fun hc48 => ?_) (fun hc48 => ?_)
  · have hh := hh.1 hc48
    refine rr_aload_n dX7_of_137 rfl rfl ?_
    exact rr_aret dX7_of_138 rfl (Or.inl ⟨_, rfl⟩) hh
  · have hh := hh.2 hc48
    refine rr_aload_n dX7_of_51 rfl rfl ?_
    refine rr_iload dX7_of_52 rfl rfl ?_
    refine rr_callW (bc' := bc) (bs' := bs) (q := x1) (av := [vI x6]) (st := []) mf_X8_lawAt dX7_of_54 rfl q_583 q_469 q_470 ⟨_, _, rfl⟩ rfl (by decide) (Nat.le_refl _) (Nat.le_refl _) hh (rr_kR fun r2 h1 hh => ?_)
    refine rr_astore (ls' := [some (vR (some x0)), some (vR x1), some (vR x2), some (vI x3), some (vI x4), some (vI x5), some (vI x6), some (vR r2), none]) dX7_of_57 rfl (by decide) (fun _ z => by cases z) rfl ?_
    refine rr_aload dX7_of_59 rfl rfl ?_
    refine rr_ifnonnull (tgt := 69) dX7_of_61 rfl (by decide) (fun hc61 => ?_) (fun hc61 => ?_)
    · have hh := hh.1 hc61
      refine rr_aload dX7_of_69 rfl rfl ?_
      refine rr_getI cf_X1 (j := 1) (by decide) dX7_of_71 rfl q_337 hh (fun n3 hh => ?_)
      refine rr_iload dX7_of_74 rfl rfl ?_
      refine rr_mmin dX7_of_76 rfl q_584 q_240 q_9 q_241 (by decide) ?_
      refine rr_istore (ls' := [some (vR (some x0)), some (vR x1), some (vR x2), some (vI x3), some (vI x4), some (vI x5), some (vI x6), some (vR r2), some (vI (if x5 < n3 then x5 else n3))]) dX7_of_79 rfl (by decide) (fun _ z => by cases z) rfl ?_
      refine rr_iload dX7_of_81 rfl rfl ?_
      refine rr_iload dX7_of_83 rfl rfl ?_
      refine rr_icmp_gt (tgt := 91) dX7_of_85 rfl (by decide) (fun hc85 => ?_) (fun hc85 => ?_)
      · have hh := hh.1 hc85
        refine rr_aload_n dX7_of_91 rfl rfl ?_
        refine rr_aload_n dX7_of_92 rfl rfl ?_
        refine rr_getL cf_X3 (j := 2) (by decide) dX7_of_93 rfl q_414 hh (fun n4 hh => ?_)
        refine rr_aload_n dX7_of_96 rfl rfl ?_
        refine rr_getI cf_X3 (j := 0) (by decide) dX7_of_97 rfl q_407 hh (fun n5 hh => ?_)
        refine rr_aload_n dX7_of_100 rfl rfl ?_
        refine rr_getI cf_X3 (j := 1) (by decide) dX7_of_101 rfl q_410 hh (fun n6 hh => ?_)
        refine rr_iload dX7_of_104 rfl rfl ?_
        refine rr_callW (bc' := bc) (bs' := bs) (q := x1) (av := [vL n4, vI n5, vI n6, vI x4]) (st := []) mf_X8_borrowed dX7_of_106 rfl q_585 q_508 q_509 ⟨_, _, rfl⟩ rfl (by decide) (Nat.le_refl _) (Nat.le_refl _) hh (rr_kL fun n8 h7 hh => ?_)
        refine rr_aload_n dX7_of_109 rfl rfl ?_
        refine rr_getL cf_X3 (j := 3) (by decide) dX7_of_110 rfl q_417 hh (fun n9 hh => ?_)
        refine rr_lcmp dX7_of_113 rfl ?_
        refine rr_if_ne (tgt := 127) dX7_of_114 rfl (by decide) (fun hc114 => ?_) (fun hc114 => ?_)
        · have hh := hh.1 (lcm_ne.mp hc114)
          refine rr_iload dX7_of_127 rfl rfl ?_
          refine rr_istore (ls' := [some (vR (some x0)), some (vR x1), some (vR x2), some (vI x3), some (vI (if x5 < n3 then x5 else n3)), some (vI x5), some (vI x6), some (vR r2), some (vI (if x5 < n3 then x5 else n3))]) dX7_of_129 rfl (by decide) (fun _ z => by cases z) rfl ?_
          obtain ⟨hz10, hh⟩ := hh
          refine rr_iinc (ls' := [some (vR (some x0)), some (vR x1), some (vR x2), some (vI x3), some (vI (if x5 < n3 then x5 else n3)), some (vI x5), some (vI (x6 + 1)), some (vR r2), some (vI (if x5 < n3 then x5 else n3))]) dX7_of_131 rfl rfl (by decide) (fun _ z => by cases z) hz10 rfl ?_
          refine rr_goto (pc' := 44) dX7_of_134 (by decide) ?_
          exact Vx.forget (ls' := [some (vR (some x0)), some (vR x1), some (vR x2), some (vI x3), some (vI (if x5 < n3 then x5 else n3)), some (vI x5), some (vI (x6 + 1)), none, none]) (And.intro rfl (And.intro rfl (And.intro rfl (And.intro rfl (And.intro rfl (And.intro rfl (And.intro rfl trivial))))))) hh
        · have hh := hh.2 (fun z => hc114 (lcm_ne.mpr z))
          refine rr_aload_n dX7_of_117 rfl rfl ?_
          refine rr_iload dX7_of_118 rfl rfl ?_
          refine rr_iload dX7_of_120 rfl rfl ?_
          refine rr_iconst dX7_of_122 rfl ⟨by decide, by decide⟩ ?_
          obtain ⟨hz11, hh⟩ := hh
          refine rr_isub dX7_of_123 rfl hz11 ?_
          refine rr_callW (bc' := bc) (bs' := bs) (q := (some x0)) (av := [vI x4, vI ((if x5 < n3 then x5 else n3) - 1)]) (st := []) mf_X7_add dX7_of_124 rfl q_586 q_588 qs_14 ⟨_, _, rfl⟩ rfl (by decide) (Nat.le_refl _) (Nat.le_refl _) hh (rr_kV fun h12 hh => ?_)
          refine rr_iload dX7_of_127 rfl rfl ?_
          refine rr_istore (ls' := [some (vR (some x0)), some (vR x1), some (vR x2), some (vI x3), some (vI (if x5 < n3 then x5 else n3)), some (vI x5), some (vI x6), some (vR r2), some (vI (if x5 < n3 then x5 else n3))]) dX7_of_129 rfl (by decide) (fun _ z => by cases z) rfl ?_
          obtain ⟨hz13, hh⟩ := hh
          refine rr_iinc (ls' := [some (vR (some x0)), some (vR x1), some (vR x2), some (vI x3), some (vI (if x5 < n3 then x5 else n3)), some (vI x5), some (vI (x6 + 1)), some (vR r2), some (vI (if x5 < n3 then x5 else n3))]) dX7_of_131 rfl rfl (by decide) (fun _ z => by cases z) hz13 rfl ?_
          refine rr_goto (pc' := 44) dX7_of_134 (by decide) ?_
          exact Vx.forget (ls' := [some (vR (some x0)), some (vR x1), some (vR x2), some (vI x3), some (vI (if x5 < n3 then x5 else n3)), some (vI x5), some (vI (x6 + 1)), none, none]) (And.intro rfl (And.intro rfl (And.intro rfl (And.intro rfl (And.intro rfl (And.intro rfl (And.intro rfl trivial))))))) hh
      · have hh := hh.2 hc85
        refine rr_goto (pc' := 131) dX7_of_88 (by decide) ?_
        obtain ⟨hz16, hh⟩ := hh
        refine rr_iinc (ls' := [some (vR (some x0)), some (vR x1), some (vR x2), some (vI x3), some (vI x4), some (vI x5), some (vI (x6 + 1)), some (vR r2), some (vI (if x5 < n3 then x5 else n3))]) dX7_of_131 rfl rfl (by decide) (fun _ z => by cases z) hz16 rfl ?_
        refine rr_goto (pc' := 44) dX7_of_134 (by decide) ?_
        exact Vx.forget (ls' := [some (vR (some x0)), some (vR x1), some (vR x2), some (vI x3), some (vI x4), some (vI x5), some (vI (x6 + 1)), none, none]) (And.intro rfl (And.intro rfl (And.intro rfl (And.intro rfl (And.intro rfl (And.intro rfl (And.intro rfl trivial))))))) hh
    · have hh := hh.2 hc61
      refine rr_iload dX7_of_64 rfl rfl ?_
      refine rr_goto (pc' := 79) dX7_of_66 (by decide) ?_
      refine rr_istore (ls' := [some (vR (some x0)), some (vR x1), some (vR x2), some (vI x3), some (vI x4), some (vI x5), some (vI x6), some (vR r2), some (vI x5)]) dX7_of_79 rfl (by decide) (fun _ z => by cases z) rfl ?_
      refine rr_iload dX7_of_81 rfl rfl ?_
      refine rr_iload dX7_of_83 rfl rfl ?_
      refine rr_icmp_gt (tgt := 91) dX7_of_85 rfl (by decide) (fun hc85 => ?_) (fun hc85 => ?_)
      · have hh := hh.1 hc85
        refine rr_aload_n dX7_of_91 rfl rfl ?_
        refine rr_aload_n dX7_of_92 rfl rfl ?_
        refine rr_getL cf_X3 (j := 2) (by decide) dX7_of_93 rfl q_414 hh (fun n17 hh => ?_)
        refine rr_aload_n dX7_of_96 rfl rfl ?_
        refine rr_getI cf_X3 (j := 0) (by decide) dX7_of_97 rfl q_407 hh (fun n18 hh => ?_)
        refine rr_aload_n dX7_of_100 rfl rfl ?_
        refine rr_getI cf_X3 (j := 1) (by decide) dX7_of_101 rfl q_410 hh (fun n19 hh => ?_)
        refine rr_iload dX7_of_104 rfl rfl ?_
        refine rr_callW (bc' := bc) (bs' := bs) (q := x1) (av := [vL n17, vI n18, vI n19, vI x4]) (st := []) mf_X8_borrowed dX7_of_106 rfl q_585 q_508 q_509 ⟨_, _, rfl⟩ rfl (by decide) (Nat.le_refl _) (Nat.le_refl _) hh (rr_kL fun n21 h20 hh => ?_)
        refine rr_aload_n dX7_of_109 rfl rfl ?_
        refine rr_getL cf_X3 (j := 3) (by decide) dX7_of_110 rfl q_417 hh (fun n22 hh => ?_)
        refine rr_lcmp dX7_of_113 rfl ?_
        refine rr_if_ne (tgt := 127) dX7_of_114 rfl (by decide) (fun hc114 => ?_) (fun hc114 => ?_)
        · have hh := hh.1 (lcm_ne.mp hc114)
          refine rr_iload dX7_of_127 rfl rfl ?_
          refine rr_istore (ls' := [some (vR (some x0)), some (vR x1), some (vR x2), some (vI x3), some (vI x5), some (vI x5), some (vI x6), some (vR r2), some (vI x5)]) dX7_of_129 rfl (by decide) (fun _ z => by cases z) rfl ?_
          obtain ⟨hz23, hh⟩ := hh
          refine rr_iinc (ls' := [some (vR (some x0)), some (vR x1), some (vR x2), some (vI x3), some (vI x5), some (vI x5), some (vI (x6 + 1)), some (vR r2), some (vI x5)]) dX7_of_131 rfl rfl (by decide) (fun _ z => by cases z) hz23 rfl ?_
          refine rr_goto (pc' := 44) dX7_of_134 (by decide) ?_
          exact Vx.forget (ls' := [some (vR (some x0)), some (vR x1), some (vR x2), some (vI x3), some (vI x5), some (vI x5), some (vI (x6 + 1)), none, none]) (And.intro rfl (And.intro rfl (And.intro rfl (And.intro rfl (And.intro rfl (And.intro rfl (And.intro rfl trivial))))))) hh
        · have hh := hh.2 (fun z => hc114 (lcm_ne.mpr z))
          refine rr_aload_n dX7_of_117 rfl rfl ?_
          refine rr_iload dX7_of_118 rfl rfl ?_
          refine rr_iload dX7_of_120 rfl rfl ?_
          refine rr_iconst dX7_of_122 rfl ⟨by decide, by decide⟩ ?_
          obtain ⟨hz24, hh⟩ := hh
          refine rr_isub dX7_of_123 rfl hz24 ?_
          refine rr_callW (bc' := bc) (bs' := bs) (q := (some x0)) (av := [vI x4, vI (x5 - 1)]) (st := []) mf_X7_add dX7_of_124 rfl q_586 q_588 qs_14 ⟨_, _, rfl⟩ rfl (by decide) (Nat.le_refl _) (Nat.le_refl _) hh (rr_kV fun h25 hh => ?_)
          refine rr_iload dX7_of_127 rfl rfl ?_
          refine rr_istore (ls' := [some (vR (some x0)), some (vR x1), some (vR x2), some (vI x3), some (vI x5), some (vI x5), some (vI x6), some (vR r2), some (vI x5)]) dX7_of_129 rfl (by decide) (fun _ z => by cases z) rfl ?_
          obtain ⟨hz26, hh⟩ := hh
          refine rr_iinc (ls' := [some (vR (some x0)), some (vR x1), some (vR x2), some (vI x3), some (vI x5), some (vI x5), some (vI (x6 + 1)), some (vR r2), some (vI x5)]) dX7_of_131 rfl rfl (by decide) (fun _ z => by cases z) hz26 rfl ?_
          refine rr_goto (pc' := 44) dX7_of_134 (by decide) ?_
          exact Vx.forget (ls' := [some (vR (some x0)), some (vR x1), some (vR x2), some (vI x3), some (vI x5), some (vI x5), some (vI (x6 + 1)), none, none]) (And.intro rfl (And.intro rfl (And.intro rfl (And.intro rfl (And.intro rfl (And.intro rfl (And.intro rfl trivial))))))) hh
      · have hh := hh.2 hc85
        refine rr_goto (pc' := 131) dX7_of_88 (by decide) ?_
        obtain ⟨hz29, hh⟩ := hh
        refine rr_iinc (ls' := [some (vR (some x0)), some (vR x1), some (vR x2), some (vI x3), some (vI x4), some (vI x5), some (vI (x6 + 1)), some (vR r2), some (vI x5)]) dX7_of_131 rfl rfl (by decide) (fun _ z => by cases z) hz29 rfl ?_
        refine rr_goto (pc' := 44) dX7_of_134 (by decide) ?_
        exact Vx.forget (ls' := [some (vR (some x0)), some (vR x1), some (vR x2), some (vI x3), some (vI x4), some (vI x5), some (vI (x6 + 1)), none, none]) (And.intro rfl (And.intro rfl (And.intro rfl (And.intro rfl (And.intro rfl (And.intro rfl (And.intro rfl trivial))))))) hh
theorem dX7_add_0 : decode cX7_add 0 = .ok (.aload_n 0, 1) := by decide +kernel
theorem dX7_add_1 : decode cX7_add 1 = .ok (.getfield 18, 3) := by decide +kernel
theorem dX7_add_4 : decode cX7_add 4 = .ok (.ifCond .le 32, 3) := by decide +kernel
theorem dX7_add_7 : decode cX7_add 7 = .ok (.aload_n 0, 1) := by decide +kernel
theorem dX7_add_8 : decode cX7_add 8 = .ok (.aload_n 0, 1) := by decide +kernel
theorem dX7_add_9 : decode cX7_add 9 = .ok (.getfield 18, 3) := by decide +kernel
theorem dX7_add_12 : decode cX7_add 12 = .ok (.iconst 1, 1) := by decide +kernel
theorem dX7_add_13 : decode cX7_add 13 = .ok (.isub, 1) := by decide +kernel
theorem dX7_add_14 : decode cX7_add 14 = .ok (.invokevirtual 72, 3) := by decide +kernel
theorem dX7_add_17 : decode cX7_add 17 = .ok (.iload_n 1, 1) := by decide +kernel
theorem dX7_add_18 : decode cX7_add 18 = .ok (.iconst 1, 1) := by decide +kernel
theorem dX7_add_19 : decode cX7_add 19 = .ok (.isub, 1) := by decide +kernel
theorem dX7_add_20 : decode cX7_add 20 = .ok (.if_icmp .ne 16, 3) := by decide +kernel
theorem dX7_add_23 : decode cX7_add 23 = .ok (.aload_n 0, 1) := by decide +kernel
theorem dX7_add_24 : decode cX7_add 24 = .ok (.dup, 1) := by decide +kernel
theorem dX7_add_25 : decode cX7_add 25 = .ok (.getfield 18, 3) := by decide +kernel
theorem dX7_add_28 : decode cX7_add 28 = .ok (.iconst 1, 1) := by decide +kernel
theorem dX7_add_29 : decode cX7_add 29 = .ok (.isub, 1) := by decide +kernel
theorem dX7_add_30 : decode cX7_add 30 = .ok (.putfield 18, 3) := by decide +kernel
theorem dX7_add_33 : decode cX7_add 33 = .ok (.goto 31, 3) := by decide +kernel
theorem dX7_add_36 : decode cX7_add 36 = .ok (.aload_n 0, 1) := by decide +kernel
theorem dX7_add_37 : decode cX7_add 37 = .ok (.getfield 18, 3) := by decide +kernel
theorem dX7_add_40 : decode cX7_add 40 = .ok (.iconst 0, 1) := by decide +kernel
theorem dX7_add_41 : decode cX7_add 41 = .ok (.aload_n 0, 1) := by decide +kernel
theorem dX7_add_42 : decode cX7_add 42 = .ok (.getfield 9, 3) := by decide +kernel
theorem dX7_add_45 : decode cX7_add 45 = .ok (.arraylength, 1) := by decide +kernel
theorem dX7_add_46 : decode cX7_add 46 = .ok (.iconst 1, 1) := by decide +kernel
theorem dX7_add_47 : decode cX7_add 47 = .ok (.isub, 1) := by decide +kernel
theorem dX7_add_48 : decode cX7_add 48 = .ok (.invokestatic 73, 3) := by decide +kernel
theorem dX7_add_51 : decode cX7_add 51 = .ok (.ifCond .eq 13, 3) := by decide +kernel
theorem dX7_add_54 : decode cX7_add 54 = .ok (.aload_n 0, 1) := by decide +kernel
theorem dX7_add_55 : decode cX7_add 55 = .ok (.getfield 9, 3) := by decide +kernel
theorem dX7_add_58 : decode cX7_add 58 = .ok (.aload_n 0, 1) := by decide +kernel
theorem dX7_add_59 : decode cX7_add 59 = .ok (.getfield 18, 3) := by decide +kernel
theorem dX7_add_62 : decode cX7_add 62 = .ok (.iload_n 1, 1) := by decide +kernel
theorem dX7_add_63 : decode cX7_add 63 = .ok (.iastore, 1) := by decide +kernel
theorem dX7_add_64 : decode cX7_add 64 = .ok (.aload_n 0, 1) := by decide +kernel
theorem dX7_add_65 : decode cX7_add 65 = .ok (.getfield 18, 3) := by decide +kernel
theorem dX7_add_68 : decode cX7_add 68 = .ok (.iconst 0, 1) := by decide +kernel
theorem dX7_add_69 : decode cX7_add 69 = .ok (.aload_n 0, 1) := by decide +kernel
theorem dX7_add_70 : decode cX7_add 70 = .ok (.getfield 15, 3) := by decide +kernel
theorem dX7_add_73 : decode cX7_add 73 = .ok (.arraylength, 1) := by decide +kernel
theorem dX7_add_74 : decode cX7_add 74 = .ok (.iconst 1, 1) := by decide +kernel
theorem dX7_add_75 : decode cX7_add 75 = .ok (.isub, 1) := by decide +kernel
theorem dX7_add_76 : decode cX7_add 76 = .ok (.invokestatic 73, 3) := by decide +kernel
theorem dX7_add_79 : decode cX7_add 79 = .ok (.ifCond .eq 13, 3) := by decide +kernel
theorem dX7_add_82 : decode cX7_add 82 = .ok (.aload_n 0, 1) := by decide +kernel
theorem dX7_add_83 : decode cX7_add 83 = .ok (.getfield 15, 3) := by decide +kernel
theorem dX7_add_86 : decode cX7_add 86 = .ok (.aload_n 0, 1) := by decide +kernel
theorem dX7_add_87 : decode cX7_add 87 = .ok (.getfield 18, 3) := by decide +kernel
theorem dX7_add_90 : decode cX7_add 90 = .ok (.iload_n 2, 1) := by decide +kernel
theorem dX7_add_91 : decode cX7_add 91 = .ok (.iastore, 1) := by decide +kernel
theorem dX7_add_92 : decode cX7_add 92 = .ok (.aload_n 0, 1) := by decide +kernel
theorem dX7_add_93 : decode cX7_add 93 = .ok (.dup, 1) := by decide +kernel
theorem dX7_add_94 : decode cX7_add 94 = .ok (.getfield 18, 3) := by decide +kernel
theorem dX7_add_97 : decode cX7_add 97 = .ok (.iconst 1, 1) := by decide +kernel
theorem dX7_add_98 : decode cX7_add 98 = .ok (.iadd, 1) := by decide +kernel
theorem dX7_add_99 : decode cX7_add 99 = .ok (.putfield 18, 3) := by decide +kernel
theorem dX7_add_102 : decode cX7_add 102 = .ok (.return_, 1) := by decide +kernel
set_option maxRecDepth 100000 in
theorem B_X7_add_0 {d : Nat} {h : AbH} {K : Option AbV → AbH → Prop} {x0 : Nat} {x1 : Int} {x2 : Int} (hh : wpGI h (some x0) 6 2 (fun n1 => ((n1 ≤ 0 → Vx (d + 1) m_X7_add 0 0 36 [some (vR (some x0)), some (vI x1), some (vI x2)] [] h K) ∧ (¬ (n1 ≤ 0) → wpGI h (some x0) 6 2 (fun n2 => in32 (n2 - 1) ∧ wpCV h (some x0) 6 (fun b10 => Vm d m_X7_lastOf [vR (some b10), vI (n2 - 1)] h (kI (fun n5 h4 => in32 (x1 - 1) ∧ ((n5 ≠ (x1 - 1) → Vx (d + 1) m_X7_add 0 0 36 [some (vR (some x0)), some (vI x1), some (vI x2)] [] h4 K) ∧ (¬ (n5 ≠ (x1 - 1)) → wpGI h4 (some x0) 6 2 (fun n7 => in32 (n7 - 1) ∧ wpP h4 (some x0) 6 2 (vI (n7 - 1)) (fun h9 => Vx (d + 1) m_X7_add 0 0 64 [some (vR (some x0)), some (vI x1), some (vI x2)] [] h9 K)))))))))))) : Vx (d + 1) m_X7_add 0 0 0 [some (vR (some x0)), some (vI x1), some (vI x2)] [] h K := by
  refine rr_aload_n dX7_add_0 rfl rfl ?_
  refine rr_getI cf_X7 (j := 2) (by decide) dX7_add_1 rfl q_110 hh (fun n1 hh => ?_)
  refine rr_if_le (tgt := 36) dX7_add_4 rfl (by decide) (fun hc4 => ?_) (fun hc4 => ?_)
  · have hh := hh.1 hc4
    exact hh
  · have hh := hh.2 hc4
    refine rr_aload_n dX7_add_7 rfl rfl ?_
    refine rr_aload_n dX7_add_8 rfl rfl ?_
    refine rr_getI cf_X7 (j := 2) (by decide) dX7_add_9 rfl q_110 hh (fun n2 hh => ?_)
    refine rr_iconst dX7_add_12 rfl ⟨by decide, by decide⟩ ?_
    obtain ⟨hz3, hh⟩ := hh
    refine rr_isub dX7_add_13 rfl hz3 ?_
    refine rr_callW (bc' := 0) (bs' := 0) (q := (some x0)) (av := [vI (n2 - 1)]) (st := []) mf_X7_lastOf dX7_add_14 rfl q_590 q_591 q_592 ⟨_, _, rfl⟩ rfl (by decide) (Nat.le_refl _) (Nat.le_refl _) hh (rr_kI fun n5 h4 hh => ?_)
    refine rr_iload_n dX7_add_17 rfl rfl ?_
    refine rr_iconst dX7_add_18 rfl ⟨by decide, by decide⟩ ?_
    obtain ⟨hz6, hh⟩ := hh
    refine rr_isub dX7_add_19 rfl hz6 ?_
    refine rr_icmp_ne (tgt := 36) dX7_add_20 rfl (by decide) (fun hc20 => ?_) (fun hc20 => ?_)
    · have hh := hh.1 hc20
      exact hh
    · have hh := hh.2 hc20
      refine rr_aload_n dX7_add_23 rfl rfl ?_
      refine rr_dup dX7_add_24 rfl rfl ?_
      refine rr_getI cf_X7 (j := 2) (by decide) dX7_add_25 rfl q_110 hh (fun n7 hh => ?_)
      refine rr_iconst dX7_add_28 rfl ⟨by decide, by decide⟩ ?_
      obtain ⟨hz8, hh⟩ := hh
      refine rr_isub dX7_add_29 rfl hz8 ?_
      refine rr_put cf_X7 (j := 2) (by decide) dX7_add_30 rfl q_110 rfl (fty := .int) (by decide +kernel) rfl rfl hh (fun h9 hh => ?_)
      refine rr_goto (pc' := 64) dX7_add_33 (by decide) ?_
      exact hh
set_option maxRecDepth 100000 in
theorem B_X7_add_36 {d : Nat} {h : AbH} {K : Option AbV → AbH → Prop} {x0 : Nat} {x1 : Int} {x2 : Int} {bc bs : Nat} (hh : wpGI h (some x0) 6 2 (fun n1 => wpGR h (some x0) 6 0 (fun r2 => wpNI h r2 (fun n3 => in32 (n3 - 1) ∧ Vm d m_X9_within [vI n1, vI 0, vI (n3 - 1)] h (kI (fun n6 h5 => ((n6 = 0 → Vx (d + 1) m_X7_add bc bs 64 [some (vR (some x0)), some (vI x1), some (vI x2)] [] h5 K) ∧ (¬ (n6 = 0) → wpGR h5 (some x0) 6 0 (fun r7 => wpGI h5 (some x0) 6 2 (fun n8 => wpSI h5 r7 n8 x1 (fun h9 => Vx (d + 1) m_X7_add bc bs 64 [some (vR (some x0)), some (vI x1), some (vI x2)] [] h9 K))))))))))) : Vx (d + 1) m_X7_add bc bs 36 [some (vR (some x0)), some (vI x1), some (vI x2)] [] h K := by
  refine rr_aload_n dX7_add_36 rfl rfl ?_
  refine rr_getI cf_X7 (j := 2) (by decide) dX7_add_37 rfl q_110 hh (fun n1 hh => ?_)
  refine rr_iconst dX7_add_40 rfl ⟨by decide, by decide⟩ ?_
  refine rr_aload_n dX7_add_41 rfl rfl ?_
  refine rr_getR cf_X7 (j := 0) (by decide) dX7_add_42 rfl q_108 hh (fun r2 hh => ?_)
  refine rr_alenI dX7_add_45 rfl hh (fun n3 hh => ?_)
  refine rr_iconst dX7_add_46 rfl ⟨by decide, by decide⟩ ?_
  obtain ⟨hz4, hh⟩ := hh
  refine rr_isub dX7_add_47 rfl hz4 ?_
  refine rr_callSN (bc' := bc) (bs' := bs) (av := [vI n1, vI 0, vI (n3 - 1)]) (st := []) mf_X9_within dX7_add_48 rfl qn_10 q_197 rfl (by decide) (Nat.le_refl _) (Nat.le_refl _) hh (rr_kI fun n6 h5 hh => ?_)
  refine rr_if_eq (tgt := 64) dX7_add_51 rfl (by decide) (fun hc51 => ?_) (fun hc51 => ?_)
  · have hh := hh.1 hc51
    exact hh
  · have hh := hh.2 hc51
    refine rr_aload_n dX7_add_54 rfl rfl ?_
    refine rr_getR cf_X7 (j := 0) (by decide) dX7_add_55 rfl q_108 hh (fun r7 hh => ?_)
    refine rr_aload_n dX7_add_58 rfl rfl ?_
    refine rr_getI cf_X7 (j := 2) (by decide) dX7_add_59 rfl q_110 hh (fun n8 hh => ?_)
    refine rr_iload_n dX7_add_62 rfl rfl ?_
    refine rr_iast dX7_add_63 rfl hh (fun h9 hh => ?_)
    exact hh
set_option maxRecDepth 100000 in
theorem B_X7_add_64 {d : Nat} {h : AbH} {K : Option AbV → AbH → Prop} {x0 : Nat} {x1 : Int} {x2 : Int} {bc bs : Nat} (hh : wpGI h (some x0) 6 2 (fun n1 => wpGR h (some x0) 6 1 (fun r2 => wpNI h r2 (fun n3 => in32 (n3 - 1) ∧ Vm d m_X9_within [vI n1, vI 0, vI (n3 - 1)] h (kI (fun n6 h5 => ((n6 = 0 → wpGI h5 (some x0) 6 2 (fun n7 => in32 (n7 + 1) ∧ wpP h5 (some x0) 6 2 (vI (n7 + 1)) (fun h9 => K none h9))) ∧ (¬ (n6 = 0) → wpGR h5 (some x0) 6 1 (fun r10 => wpGI h5 (some x0) 6 2 (fun n11 => wpSI h5 r10 n11 x2 (fun h12 => wpGI h12 (some x0) 6 2 (fun n13 => in32 (n13 + 1) ∧ wpP h12 (some x0) 6 2 (vI (n13 + 1)) (fun h15 => K none h15))))))))))))) : Vx (d + 1) m_X7_add bc bs 64 [some (vR (some x0)), some (vI x1), some (vI x2)] [] h K := by
  refine rr_aload_n dX7_add_64 rfl rfl ?_
  refine rr_getI cf_X7 (j := 2) (by decide) dX7_add_65 rfl q_110 hh (fun n1 hh => ?_)
  refine rr_iconst dX7_add_68 rfl ⟨by decide, by decide⟩ ?_
  refine rr_aload_n dX7_add_69 rfl rfl ?_
  refine rr_getR cf_X7 (j := 1) (by decide) dX7_add_70 rfl q_109 hh (fun r2 hh => ?_)
  refine rr_alenI dX7_add_73 rfl hh (fun n3 hh => ?_)
  refine rr_iconst dX7_add_74 rfl ⟨by decide, by decide⟩ ?_
  obtain ⟨hz4, hh⟩ := hh
  refine rr_isub dX7_add_75 rfl hz4 ?_
  refine rr_callSN (bc' := bc) (bs' := bs) (av := [vI n1, vI 0, vI (n3 - 1)]) (st := []) mf_X9_within dX7_add_76 rfl qn_10 q_197 rfl (by decide) (Nat.le_refl _) (Nat.le_refl _) hh (rr_kI fun n6 h5 hh => ?_)
  refine rr_if_eq (tgt := 92) dX7_add_79 rfl (by decide) (fun hc79 => ?_) (fun hc79 => ?_)
  · have hh := hh.1 hc79
    refine rr_aload_n dX7_add_92 rfl rfl ?_
    refine rr_dup dX7_add_93 rfl rfl ?_
    refine rr_getI cf_X7 (j := 2) (by decide) dX7_add_94 rfl q_110 hh (fun n7 hh => ?_)
    refine rr_iconst dX7_add_97 rfl ⟨by decide, by decide⟩ ?_
    obtain ⟨hz8, hh⟩ := hh
    refine rr_iadd dX7_add_98 rfl hz8 ?_
    refine rr_put cf_X7 (j := 2) (by decide) dX7_add_99 rfl q_110 rfl (fty := .int) (by decide +kernel) rfl rfl hh (fun h9 hh => ?_)
    exact rr_vret dX7_add_102 rfl hh
  · have hh := hh.2 hc79
    refine rr_aload_n dX7_add_82 rfl rfl ?_
    refine rr_getR cf_X7 (j := 1) (by decide) dX7_add_83 rfl q_109 hh (fun r10 hh => ?_)
    refine rr_aload_n dX7_add_86 rfl rfl ?_
    refine rr_getI cf_X7 (j := 2) (by decide) dX7_add_87 rfl q_110 hh (fun n11 hh => ?_)
    refine rr_iload_n dX7_add_90 rfl rfl ?_
    refine rr_iast dX7_add_91 rfl hh (fun h12 hh => ?_)
    refine rr_aload_n dX7_add_92 rfl rfl ?_
    refine rr_dup dX7_add_93 rfl rfl ?_
    refine rr_getI cf_X7 (j := 2) (by decide) dX7_add_94 rfl q_110 hh (fun n13 hh => ?_)
    refine rr_iconst dX7_add_97 rfl ⟨by decide, by decide⟩ ?_
    obtain ⟨hz14, hh⟩ := hh
    refine rr_iadd dX7_add_98 rfl hz14 ?_
    refine rr_put cf_X7 (j := 2) (by decide) dX7_add_99 rfl q_110 rfl (fty := .int) (by decide +kernel) rfl rfl hh (fun h15 hh => ?_)
    exact rr_vret dX7_add_102 rfl hh
theorem dX7_firstOf_0 : decode cX7_firstOf 0 = .ok (.iload_n 1, 1) := by decide +kernel
theorem dX7_firstOf_1 : decode cX7_firstOf 1 = .ok (.iconst 0, 1) := by decide +kernel
theorem dX7_firstOf_2 : decode cX7_firstOf 2 = .ok (.aload_n 0, 1) := by decide +kernel
theorem dX7_firstOf_3 : decode cX7_firstOf 3 = .ok (.getfield 18, 3) := by decide +kernel
theorem dX7_firstOf_6 : decode cX7_firstOf 6 = .ok (.iconst 1, 1) := by decide +kernel
theorem dX7_firstOf_7 : decode cX7_firstOf 7 = .ok (.isub, 1) := by decide +kernel
theorem dX7_firstOf_8 : decode cX7_firstOf 8 = .ok (.invokestatic 73, 3) := by decide +kernel
theorem dX7_firstOf_11 : decode cX7_firstOf 11 = .ok (.ifCond .eq 21, 3) := by decide +kernel
theorem dX7_firstOf_14 : decode cX7_firstOf 14 = .ok (.iload_n 1, 1) := by decide +kernel
theorem dX7_firstOf_15 : decode cX7_firstOf 15 = .ok (.aload_n 0, 1) := by decide +kernel
theorem dX7_firstOf_16 : decode cX7_firstOf 16 = .ok (.getfield 9, 3) := by decide +kernel
theorem dX7_firstOf_19 : decode cX7_firstOf 19 = .ok (.arraylength, 1) := by decide +kernel
theorem dX7_firstOf_20 : decode cX7_firstOf 20 = .ok (.if_icmp .ge 12, 3) := by decide +kernel
theorem dX7_firstOf_23 : decode cX7_firstOf 23 = .ok (.aload_n 0, 1) := by decide +kernel
theorem dX7_firstOf_24 : decode cX7_firstOf 24 = .ok (.getfield 9, 3) := by decide +kernel
theorem dX7_firstOf_27 : decode cX7_firstOf 27 = .ok (.iload_n 1, 1) := by decide +kernel
theorem dX7_firstOf_28 : decode cX7_firstOf 28 = .ok (.iaload, 1) := by decide +kernel
theorem dX7_firstOf_29 : decode cX7_firstOf 29 = .ok (.goto 4, 3) := by decide +kernel
theorem dX7_firstOf_32 : decode cX7_firstOf 32 = .ok (.iconst (-1), 1) := by decide +kernel
theorem dX7_firstOf_33 : decode cX7_firstOf 33 = .ok (.ireturn, 1) := by decide +kernel
set_option maxRecDepth 100000 in
theorem B_X7_firstOf_0 {d : Nat} {h : AbH} {K : Option AbV → AbH → Prop} {x0 : Nat} {x1 : Int} (hh : wpGI h (some x0) 6 2 (fun n1 => in32 (n1 - 1) ∧ Vm d m_X9_within [vI x1, vI 0, vI (n1 - 1)] h (kI (fun n4 h3 => ((n4 = 0 → K (some (vI (-1))) h3) ∧ (¬ (n4 = 0) → wpGR h3 (some x0) 6 0 (fun r5 => wpNI h3 r5 (fun n6 => ((n6 ≤ x1 → K (some (vI (-1))) h3) ∧ (¬ (n6 ≤ x1) → wpGR h3 (some x0) 6 0 (fun r7 => wpLI h3 r7 x1 (fun n8 => K (some (vI n8)) h3)))))))))))) : Vx (d + 1) m_X7_firstOf 0 0 0 [some (vR (some x0)), some (vI x1)] [] h K := by
  refine rr_iload_n dX7_firstOf_0 rfl rfl ?_
  refine rr_iconst dX7_firstOf_1 rfl ⟨by decide, by decide⟩ ?_
  refine rr_aload_n dX7_firstOf_2 rfl rfl ?_
  refine rr_getI cf_X7 (j := 2) (by decide) dX7_firstOf_3 rfl q_110 hh (fun n1 hh => ?_)
  refine rr_iconst dX7_firstOf_6 rfl ⟨by decide, by decide⟩ ?_
  obtain ⟨hz2, hh⟩ := hh
  refine rr_isub dX7_firstOf_7 rfl hz2 ?_
  refine rr_callSN (bc' := 0) (bs' := 0) (av := [vI x1, vI 0, vI (n1 - 1)]) (st := []) mf_X9_within dX7_firstOf_8 rfl qn_10 q_197 rfl (by decide) (Nat.le_refl _) (Nat.le_refl _) hh (rr_kI fun n4 h3 hh => ?_)
  refine rr_if_eq (tgt := 32) dX7_firstOf_11 rfl (by decide) (fun hc11 => ?_) (fun hc11 => ?_)
  · have hh := hh.1 hc11
    refine rr_iconst dX7_firstOf_32 rfl ⟨by decide, by decide⟩ ?_
    exact rr_iret dX7_firstOf_33 rfl hh
  · have hh := hh.2 hc11
    refine rr_iload_n dX7_firstOf_14 rfl rfl ?_
    refine rr_aload_n dX7_firstOf_15 rfl rfl ?_
    refine rr_getR cf_X7 (j := 0) (by decide) dX7_firstOf_16 rfl q_108 hh (fun r5 hh => ?_)
    refine rr_alenI dX7_firstOf_19 rfl hh (fun n6 hh => ?_)
    refine rr_icmp_ge (tgt := 32) dX7_firstOf_20 rfl (by decide) (fun hc20 => ?_) (fun hc20 => ?_)
    · have hh := hh.1 hc20
      refine rr_iconst dX7_firstOf_32 rfl ⟨by decide, by decide⟩ ?_
      exact rr_iret dX7_firstOf_33 rfl hh
    · have hh := hh.2 hc20
      refine rr_aload_n dX7_firstOf_23 rfl rfl ?_
      refine rr_getR cf_X7 (j := 0) (by decide) dX7_firstOf_24 rfl q_108 hh (fun r7 hh => ?_)
      refine rr_iload_n dX7_firstOf_27 rfl rfl ?_
      refine rr_iald dX7_firstOf_28 rfl hh (fun n8 hh => ?_)
      refine rr_goto (pc' := 33) dX7_firstOf_29 (by decide) ?_
      exact rr_iret dX7_firstOf_33 rfl hh
theorem dX7_lastOf_0 : decode cX7_lastOf 0 = .ok (.iload_n 1, 1) := by decide +kernel
theorem dX7_lastOf_1 : decode cX7_lastOf 1 = .ok (.iconst 0, 1) := by decide +kernel
theorem dX7_lastOf_2 : decode cX7_lastOf 2 = .ok (.aload_n 0, 1) := by decide +kernel
theorem dX7_lastOf_3 : decode cX7_lastOf 3 = .ok (.getfield 18, 3) := by decide +kernel
theorem dX7_lastOf_6 : decode cX7_lastOf 6 = .ok (.iconst 1, 1) := by decide +kernel
theorem dX7_lastOf_7 : decode cX7_lastOf 7 = .ok (.isub, 1) := by decide +kernel
theorem dX7_lastOf_8 : decode cX7_lastOf 8 = .ok (.invokestatic 73, 3) := by decide +kernel
theorem dX7_lastOf_11 : decode cX7_lastOf 11 = .ok (.ifCond .eq 21, 3) := by decide +kernel
theorem dX7_lastOf_14 : decode cX7_lastOf 14 = .ok (.iload_n 1, 1) := by decide +kernel
theorem dX7_lastOf_15 : decode cX7_lastOf 15 = .ok (.aload_n 0, 1) := by decide +kernel
theorem dX7_lastOf_16 : decode cX7_lastOf 16 = .ok (.getfield 15, 3) := by decide +kernel
theorem dX7_lastOf_19 : decode cX7_lastOf 19 = .ok (.arraylength, 1) := by decide +kernel
theorem dX7_lastOf_20 : decode cX7_lastOf 20 = .ok (.if_icmp .ge 12, 3) := by decide +kernel
theorem dX7_lastOf_23 : decode cX7_lastOf 23 = .ok (.aload_n 0, 1) := by decide +kernel
theorem dX7_lastOf_24 : decode cX7_lastOf 24 = .ok (.getfield 15, 3) := by decide +kernel
theorem dX7_lastOf_27 : decode cX7_lastOf 27 = .ok (.iload_n 1, 1) := by decide +kernel
theorem dX7_lastOf_28 : decode cX7_lastOf 28 = .ok (.iaload, 1) := by decide +kernel
theorem dX7_lastOf_29 : decode cX7_lastOf 29 = .ok (.goto 4, 3) := by decide +kernel
theorem dX7_lastOf_32 : decode cX7_lastOf 32 = .ok (.iconst (-1), 1) := by decide +kernel
theorem dX7_lastOf_33 : decode cX7_lastOf 33 = .ok (.ireturn, 1) := by decide +kernel
set_option maxRecDepth 100000 in
theorem B_X7_lastOf_0 {d : Nat} {h : AbH} {K : Option AbV → AbH → Prop} {x0 : Nat} {x1 : Int} (hh : wpGI h (some x0) 6 2 (fun n1 => in32 (n1 - 1) ∧ Vm d m_X9_within [vI x1, vI 0, vI (n1 - 1)] h (kI (fun n4 h3 => ((n4 = 0 → K (some (vI (-1))) h3) ∧ (¬ (n4 = 0) → wpGR h3 (some x0) 6 1 (fun r5 => wpNI h3 r5 (fun n6 => ((n6 ≤ x1 → K (some (vI (-1))) h3) ∧ (¬ (n6 ≤ x1) → wpGR h3 (some x0) 6 1 (fun r7 => wpLI h3 r7 x1 (fun n8 => K (some (vI n8)) h3)))))))))))) : Vx (d + 1) m_X7_lastOf 0 0 0 [some (vR (some x0)), some (vI x1)] [] h K := by
  refine rr_iload_n dX7_lastOf_0 rfl rfl ?_
  refine rr_iconst dX7_lastOf_1 rfl ⟨by decide, by decide⟩ ?_
  refine rr_aload_n dX7_lastOf_2 rfl rfl ?_
  refine rr_getI cf_X7 (j := 2) (by decide) dX7_lastOf_3 rfl q_110 hh (fun n1 hh => ?_)
  refine rr_iconst dX7_lastOf_6 rfl ⟨by decide, by decide⟩ ?_
  obtain ⟨hz2, hh⟩ := hh
  refine rr_isub dX7_lastOf_7 rfl hz2 ?_
  refine rr_callSN (bc' := 0) (bs' := 0) (av := [vI x1, vI 0, vI (n1 - 1)]) (st := []) mf_X9_within dX7_lastOf_8 rfl qn_10 q_197 rfl (by decide) (Nat.le_refl _) (Nat.le_refl _) hh (rr_kI fun n4 h3 hh => ?_)
  refine rr_if_eq (tgt := 32) dX7_lastOf_11 rfl (by decide) (fun hc11 => ?_) (fun hc11 => ?_)
  · have hh := hh.1 hc11
    refine rr_iconst dX7_lastOf_32 rfl ⟨by decide, by decide⟩ ?_
    exact rr_iret dX7_lastOf_33 rfl hh
  · have hh := hh.2 hc11
    refine rr_iload_n dX7_lastOf_14 rfl rfl ?_
    refine rr_aload_n dX7_lastOf_15 rfl rfl ?_
    refine rr_getR cf_X7 (j := 1) (by decide) dX7_lastOf_16 rfl q_109 hh (fun r5 hh => ?_)
    refine rr_alenI dX7_lastOf_19 rfl hh (fun n6 hh => ?_)
    refine rr_icmp_ge (tgt := 32) dX7_lastOf_20 rfl (by decide) (fun hc20 => ?_) (fun hc20 => ?_)
    · have hh := hh.1 hc20
      refine rr_iconst dX7_lastOf_32 rfl ⟨by decide, by decide⟩ ?_
      exact rr_iret dX7_lastOf_33 rfl hh
    · have hh := hh.2 hc20
      refine rr_aload_n dX7_lastOf_23 rfl rfl ?_
      refine rr_getR cf_X7 (j := 1) (by decide) dX7_lastOf_24 rfl q_109 hh (fun r7 hh => ?_)
      refine rr_iload_n dX7_lastOf_27 rfl rfl ?_
      refine rr_iald dX7_lastOf_28 rfl hh (fun n8 hh => ?_)
      refine rr_goto (pc' := 33) dX7_lastOf_29 (by decide) ?_
      exact rr_iret dX7_lastOf_33 rfl hh
theorem dX7_earliest_0 : decode cX7_earliest 0 = .ok (.aload_n 0, 1) := by decide +kernel
theorem dX7_earliest_1 : decode cX7_earliest 1 = .ok (.iconst 0, 1) := by decide +kernel
theorem dX7_earliest_2 : decode cX7_earliest 2 = .ok (.invokevirtual 77, 3) := by decide +kernel
theorem dX7_earliest_5 : decode cX7_earliest 5 = .ok (.ireturn, 1) := by decide +kernel
set_option maxRecDepth 100000 in
theorem B_X7_earliest_0 {d : Nat} {h : AbH} {K : Option AbV → AbH → Prop} {x0 : Nat} (hh : wpCV h (some x0) 6 (fun b3 => Vm d m_X7_firstOf [vR (some b3), vI 0] h (kI (fun n2 h1 => K (some (vI n2)) h1)))) : Vx (d + 1) m_X7_earliest 0 0 0 [some (vR (some x0))] [] h K := by
  refine rr_aload_n dX7_earliest_0 rfl rfl ?_
  refine rr_iconst dX7_earliest_1 rfl ⟨by decide, by decide⟩ ?_
  refine rr_callW (bc' := 0) (bs' := 0) (q := (some x0)) (av := [vI 0]) (st := []) mf_X7_firstOf dX7_earliest_2 rfl q_603 q_604 q_605 ⟨_, _, rfl⟩ rfl (by decide) (Nat.le_refl _) (Nat.le_refl _) hh (rr_kI fun n2 h1 hh => ?_)
  exact rr_iret dX7_earliest_5 rfl hh
theorem dX7_latest_0 : decode cX7_latest 0 = .ok (.aload_n 0, 1) := by decide +kernel
theorem dX7_latest_1 : decode cX7_latest 1 = .ok (.aload_n 0, 1) := by decide +kernel
theorem dX7_latest_2 : decode cX7_latest 2 = .ok (.getfield 18, 3) := by decide +kernel
theorem dX7_latest_5 : decode cX7_latest 5 = .ok (.iconst 1, 1) := by decide +kernel
theorem dX7_latest_6 : decode cX7_latest 6 = .ok (.isub, 1) := by decide +kernel
theorem dX7_latest_7 : decode cX7_latest 7 = .ok (.invokevirtual 72, 3) := by decide +kernel
theorem dX7_latest_10 : decode cX7_latest 10 = .ok (.ireturn, 1) := by decide +kernel
set_option maxRecDepth 100000 in
theorem B_X7_latest_0 {d : Nat} {h : AbH} {K : Option AbV → AbH → Prop} {x0 : Nat} (hh : wpGI h (some x0) 6 2 (fun n1 => in32 (n1 - 1) ∧ wpCV h (some x0) 6 (fun b5 => Vm d m_X7_lastOf [vR (some b5), vI (n1 - 1)] h (kI (fun n4 h3 => K (some (vI n4)) h3))))) : Vx (d + 1) m_X7_latest 0 0 0 [some (vR (some x0))] [] h K := by
  refine rr_aload_n dX7_latest_0 rfl rfl ?_
  refine rr_aload_n dX7_latest_1 rfl rfl ?_
  refine rr_getI cf_X7 (j := 2) (by decide) dX7_latest_2 rfl q_110 hh (fun n1 hh => ?_)
  refine rr_iconst dX7_latest_5 rfl ⟨by decide, by decide⟩ ?_
  obtain ⟨hz2, hh⟩ := hh
  refine rr_isub dX7_latest_6 rfl hz2 ?_
  refine rr_callW (bc' := 0) (bs' := 0) (q := (some x0)) (av := [vI (n1 - 1)]) (st := []) mf_X7_lastOf dX7_latest_7 rfl q_590 q_591 q_592 ⟨_, _, rfl⟩ rfl (by decide) (Nat.le_refl _) (Nat.le_refl _) hh (rr_kI fun n4 h3 hh => ?_)
  exact rr_iret dX7_latest_10 rfl hh
theorem dX7_kind_0 : decode cX7_kind 0 = .ok (.aload_n 0, 1) := by decide +kernel
theorem dX7_kind_1 : decode cX7_kind 1 = .ok (.getfield 18, 3) := by decide +kernel
theorem dX7_kind_4 : decode cX7_kind 4 = .ok (.iconst 2, 1) := by decide +kernel
theorem dX7_kind_5 : decode cX7_kind 5 = .ok (.invokestatic 52, 3) := by decide +kernel
theorem dX7_kind_8 : decode cX7_kind 8 = .ok (.ireturn, 1) := by decide +kernel
set_option maxRecDepth 100000 in
theorem B_X7_kind_0 {d : Nat} {h : AbH} {K : Option AbV → AbH → Prop} {x0 : Nat} (hh : wpGI h (some x0) 6 2 (fun n1 => K (some (vI (if 2 < n1 then 2 else n1))) h)) : Vx (d + 1) m_X7_kind 0 0 0 [some (vR (some x0))] [] h K := by
  refine rr_aload_n dX7_kind_0 rfl rfl ?_
  refine rr_getI cf_X7 (j := 2) (by decide) dX7_kind_1 rfl q_110 hh (fun n1 hh => ?_)
  refine rr_iconst dX7_kind_4 rfl ⟨by decide, by decide⟩ ?_
  refine rr_mmin dX7_kind_5 rfl q_584 q_240 q_9 q_241 (by decide) ?_
  exact rr_iret dX7_kind_8 rfl hh
theorem dX2_init_0 : decode cX2_init 0 = .ok (.aload_n 0, 1) := by decide +kernel
theorem dX2_init_1 : decode cX2_init 1 = .ok (.invokespecial 3, 3) := by decide +kernel
theorem dX2_init_4 : decode cX2_init 4 = .ok (.aload_n 0, 1) := by decide +kernel
theorem dX2_init_5 : decode cX2_init 5 = .ok (.bipush 12, 2) := by decide +kernel
theorem dX2_init_7 : decode cX2_init 7 = .ok (.newarray .int, 2) := by decide +kernel
theorem dX2_init_9 : decode cX2_init 9 = .ok (.putfield 9, 3) := by decide +kernel
theorem dX2_init_12 : decode cX2_init 12 = .ok (.aload_n 0, 1) := by decide +kernel
theorem dX2_init_13 : decode cX2_init 13 = .ok (.bipush 12, 2) := by decide +kernel
theorem dX2_init_15 : decode cX2_init 15 = .ok (.newarray .int, 2) := by decide +kernel
theorem dX2_init_17 : decode cX2_init 17 = .ok (.putfield 15, 3) := by decide +kernel
theorem dX2_init_20 : decode cX2_init 20 = .ok (.aload_n 0, 1) := by decide +kernel
theorem dX2_init_21 : decode cX2_init 21 = .ok (.bipush 12, 2) := by decide +kernel
theorem dX2_init_23 : decode cX2_init 23 = .ok (.newarray .int, 2) := by decide +kernel
theorem dX2_init_25 : decode cX2_init 25 = .ok (.putfield 18, 3) := by decide +kernel
theorem dX2_init_28 : decode cX2_init 28 = .ok (.aload_n 0, 1) := by decide +kernel
theorem dX2_init_29 : decode cX2_init 29 = .ok (.bipush 12, 2) := by decide +kernel
theorem dX2_init_31 : decode cX2_init 31 = .ok (.newarray .int, 2) := by decide +kernel
theorem dX2_init_33 : decode cX2_init 33 = .ok (.putfield 21, 3) := by decide +kernel
theorem dX2_init_36 : decode cX2_init 36 = .ok (.return_, 1) := by decide +kernel
set_option maxRecDepth 100000 in
theorem B_X2_init_0 {d : Nat} {h : AbH} {K : Option AbV → AbH → Prop} {x0 : Nat} (hh : ∀ q1 : Nat, ab_new h q1 → ∀ h2 : AbH, h2 = hsI h q1 (12, fun _ => 0) → wpP h2 (some x0) 1 0 (vR (some q1)) (fun h5 => ∀ q6 : Nat, ab_new h5 q6 → ∀ h7 : AbH, h7 = hsI h5 q6 (12, fun _ => 0) → wpP h7 (some x0) 1 1 (vR (some q6)) (fun h10 => ∀ q11 : Nat, ab_new h10 q11 → ∀ h12 : AbH, h12 = hsI h10 q11 (12, fun _ => 0) → wpP h12 (some x0) 1 2 (vR (some q11)) (fun h15 => ∀ q16 : Nat, ab_new h15 q16 → ∀ h17 : AbH, h17 = hsI h15 q16 (12, fun _ => 0) → wpP h17 (some x0) 1 3 (vR (some q16)) (fun h20 => K none h20))))) : Vx (d + 1) m_X2_init 4 48 0 [some (vR (some x0))] [] h K := by
  refine rr_aload_n dX2_init_0 rfl rfl ?_
  refine rr_objInit dX2_init_1 rfl q_124 q_23 q_24 (by decide) ?_
  refine rr_aload_n dX2_init_4 rfl rfl ?_
  refine rr_bipush dX2_init_5 rfl ⟨by decide, by decide⟩ rfl ?_
  refine rr_newI (bc' := 3) (bs' := 36) (n := 12) dX2_init_7 rfl q_58 rfl (by decide) (by decide) (by decide) (fun q1 hz => ?_)
  have hh := hh q1 hz _ rfl
  generalize hsI h q1 (12, fun _ => 0) = h2 at hh ⊢
  refine rr_putF cf_X2 (j := 0) (by decide) dX2_init_9 rfl q_125 rfl rfl rfl (fty := .array (.int)) (by decide +kernel) (by first | rfl | exact rn_r _ _ (by first | exact Or.inl ⟨_, rfl⟩ | exact Or.inr ⟨_, rfl⟩)) (by first | rfl | exact rf_r _ _ (by first | exact Or.inl ⟨_, rfl⟩ | exact Or.inr ⟨_, rfl⟩)) hh (fun h5 hh => ?_)
  refine rr_aload_n dX2_init_12 rfl rfl ?_
  refine rr_bipush dX2_init_13 rfl ⟨by decide, by decide⟩ rfl ?_
  refine rr_newI (bc' := 2) (bs' := 24) (n := 12) dX2_init_15 rfl q_58 rfl (by decide) (by decide) (by decide) (fun q6 hz => ?_)
  have hh := hh q6 hz _ rfl
  generalize hsI h5 q6 (12, fun _ => 0) = h7 at hh ⊢
  refine rr_putF cf_X2 (j := 1) (by decide) dX2_init_17 rfl q_126 rfl rfl rfl (fty := .array (.int)) (by decide +kernel) (by first | rfl | exact rn_r _ _ (by first | exact Or.inl ⟨_, rfl⟩ | exact Or.inr ⟨_, rfl⟩)) (by first | rfl | exact rf_r _ _ (by first | exact Or.inl ⟨_, rfl⟩ | exact Or.inr ⟨_, rfl⟩)) hh (fun h10 hh => ?_)
  refine rr_aload_n dX2_init_20 rfl rfl ?_
  refine rr_bipush dX2_init_21 rfl ⟨by decide, by decide⟩ rfl ?_
  refine rr_newI (bc' := 1) (bs' := 12) (n := 12) dX2_init_23 rfl q_58 rfl (by decide) (by decide) (by decide) (fun q11 hz => ?_)
  have hh := hh q11 hz _ rfl
  generalize hsI h10 q11 (12, fun _ => 0) = h12 at hh ⊢
  refine rr_putF cf_X2 (j := 2) (by decide) dX2_init_25 rfl q_127 rfl rfl rfl (fty := .array (.int)) (by decide +kernel) (by first | rfl | exact rn_r _ _ (by first | exact Or.inl ⟨_, rfl⟩ | exact Or.inr ⟨_, rfl⟩)) (by first | rfl | exact rf_r _ _ (by first | exact Or.inl ⟨_, rfl⟩ | exact Or.inr ⟨_, rfl⟩)) hh (fun h15 hh => ?_)
  refine rr_aload_n dX2_init_28 rfl rfl ?_
  refine rr_bipush dX2_init_29 rfl ⟨by decide, by decide⟩ rfl ?_
  refine rr_newI (bc' := 0) (bs' := 0) (n := 12) dX2_init_31 rfl q_58 rfl (by decide) (by decide) (by decide) (fun q16 hz => ?_)
  have hh := hh q16 hz _ rfl
  generalize hsI h15 q16 (12, fun _ => 0) = h17 at hh ⊢
  refine rr_putF cf_X2 (j := 3) (by decide) dX2_init_33 rfl q_128 rfl rfl rfl (fty := .array (.int)) (by decide +kernel) (by first | rfl | exact rn_r _ _ (by first | exact Or.inl ⟨_, rfl⟩ | exact Or.inr ⟨_, rfl⟩)) (by first | rfl | exact rf_r _ _ (by first | exact Or.inl ⟨_, rfl⟩ | exact Or.inr ⟨_, rfl⟩)) hh (fun h20 hh => ?_)
  exact rr_vret dX2_init_36 rfl hh
theorem dX2_of_0 : decode cX2_of 0 = .ok (.iconst 0, 1) := by decide +kernel
theorem dX2_of_1 : decode cX2_of 1 = .ok (.istore_n 3, 1) := by decide +kernel
theorem dX2_of_2 : decode cX2_of 2 = .ok (.iload_n 3, 1) := by decide +kernel
theorem dX2_of_3 : decode cX2_of 3 = .ok (.bipush 12, 2) := by decide +kernel
theorem dX2_of_5 : decode cX2_of 5 = .ok (.if_icmp .ge 84, 3) := by decide +kernel
theorem dX2_of_8 : decode cX2_of 8 = .ok (.aload_n 1, 1) := by decide +kernel
theorem dX2_of_9 : decode cX2_of 9 = .ok (.iload_n 3, 1) := by decide +kernel
theorem dX2_of_10 : decode cX2_of 10 = .ok (.invokevirtual 24, 3) := by decide +kernel
theorem dX2_of_13 : decode cX2_of 13 = .ok (.astore 4, 2) := by decide +kernel
theorem dX2_of_15 : decode cX2_of 15 = .ok (.aload_n 0, 1) := by decide +kernel
theorem dX2_of_16 : decode cX2_of 16 = .ok (.getfield 21, 3) := by decide +kernel
theorem dX2_of_19 : decode cX2_of 19 = .ok (.iload_n 3, 1) := by decide +kernel
theorem dX2_of_20 : decode cX2_of 20 = .ok (.iconst 0, 1) := by decide +kernel
theorem dX2_of_21 : decode cX2_of 21 = .ok (.iastore, 1) := by decide +kernel
theorem dX2_of_22 : decode cX2_of 22 = .ok (.aload_n 0, 1) := by decide +kernel
theorem dX2_of_23 : decode cX2_of 23 = .ok (.getfield 15, 3) := by decide +kernel
theorem dX2_of_26 : decode cX2_of 26 = .ok (.iload_n 3, 1) := by decide +kernel
theorem dX2_of_27 : decode cX2_of 27 = .ok (.iconst (-1), 1) := by decide +kernel
theorem dX2_of_28 : decode cX2_of 28 = .ok (.iastore, 1) := by decide +kernel
theorem dX2_of_29 : decode cX2_of 29 = .ok (.aload_n 0, 1) := by decide +kernel
theorem dX2_of_30 : decode cX2_of 30 = .ok (.getfield 18, 3) := by decide +kernel
theorem dX2_of_33 : decode cX2_of 33 = .ok (.iload_n 3, 1) := by decide +kernel
theorem dX2_of_34 : decode cX2_of 34 = .ok (.iconst (-1), 1) := by decide +kernel
theorem dX2_of_35 : decode cX2_of 35 = .ok (.iastore, 1) := by decide +kernel
theorem dX2_of_36 : decode cX2_of 36 = .ok (.aload 4, 2) := by decide +kernel
theorem dX2_of_38 : decode cX2_of 38 = .ok (.ifnonnull 6, 3) := by decide +kernel
theorem dX2_of_41 : decode cX2_of 41 = .ok (.goto 42, 3) := by decide +kernel
theorem dX2_of_44 : decode cX2_of 44 = .ok (.aload_n 2, 1) := by decide +kernel
theorem dX2_of_45 : decode cX2_of 45 = .ok (.aload_n 1, 1) := by decide +kernel
theorem dX2_of_46 : decode cX2_of 46 = .ok (.aload 4, 2) := by decide +kernel
theorem dX2_of_48 : decode cX2_of 48 = .ok (.invokevirtual 30, 3) := by decide +kernel
theorem dX2_of_51 : decode cX2_of 51 = .ok (.pop, 1) := by decide +kernel
theorem dX2_of_52 : decode cX2_of 52 = .ok (.aload_n 0, 1) := by decide +kernel
theorem dX2_of_53 : decode cX2_of 53 = .ok (.getfield 9, 3) := by decide +kernel
theorem dX2_of_56 : decode cX2_of 56 = .ok (.iload_n 3, 1) := by decide +kernel
theorem dX2_of_57 : decode cX2_of 57 = .ok (.aload 4, 2) := by decide +kernel
theorem dX2_of_59 : decode cX2_of 59 = .ok (.getfield 36, 3) := by decide +kernel
theorem dX2_of_62 : decode cX2_of 62 = .ok (.iastore, 1) := by decide +kernel
theorem dX2_of_63 : decode cX2_of 63 = .ok (.aload_n 0, 1) := by decide +kernel
theorem dX2_of_64 : decode cX2_of 64 = .ok (.getfield 15, 3) := by decide +kernel
theorem dX2_of_67 : decode cX2_of 67 = .ok (.iload_n 3, 1) := by decide +kernel
theorem dX2_of_68 : decode cX2_of 68 = .ok (.aload_n 2, 1) := by decide +kernel
theorem dX2_of_69 : decode cX2_of 69 = .ok (.invokevirtual 42, 3) := by decide +kernel
theorem dX2_of_72 : decode cX2_of 72 = .ok (.iastore, 1) := by decide +kernel
theorem dX2_of_73 : decode cX2_of 73 = .ok (.aload_n 0, 1) := by decide +kernel
theorem dX2_of_74 : decode cX2_of 74 = .ok (.getfield 18, 3) := by decide +kernel
theorem dX2_of_77 : decode cX2_of 77 = .ok (.iload_n 3, 1) := by decide +kernel
theorem dX2_of_78 : decode cX2_of 78 = .ok (.aload_n 2, 1) := by decide +kernel
theorem dX2_of_79 : decode cX2_of 79 = .ok (.invokevirtual 46, 3) := by decide +kernel
theorem dX2_of_82 : decode cX2_of 82 = .ok (.iastore, 1) := by decide +kernel
theorem dX2_of_83 : decode cX2_of 83 = .ok (.iinc 3 1, 3) := by decide +kernel
theorem dX2_of_86 : decode cX2_of 86 = .ok (.goto (-84), 3) := by decide +kernel
theorem dX2_of_89 : decode cX2_of 89 = .ok (.aload_n 0, 1) := by decide +kernel
theorem dX2_of_90 : decode cX2_of 90 = .ok (.invokevirtual 49, 3) := by decide +kernel
theorem dX2_of_93 : decode cX2_of 93 = .ok (.aload_n 0, 1) := by decide +kernel
theorem dX2_of_94 : decode cX2_of 94 = .ok (.areturn, 1) := by decide +kernel
set_option maxRecDepth 100000 in
theorem B_X2_of_0 {d : Nat} {h : AbH} {K : Option AbV → AbH → Prop} {x0 : Nat} {x1 : Option Nat} {x2 : Option Nat} (hh : Vx (d + 1) m_X2_of 0 0 2 [some (vR (some x0)), some (vR x1), some (vR x2), some (vI 0), none] [] h K) : Vx (d + 1) m_X2_of 0 0 0 [some (vR (some x0)), some (vR x1), some (vR x2)] [] h K := by
  refine Vx.pad 2 [some (vR (some x0)), some (vR x1), some (vR x2), none, none] rfl ?_
  refine rr_iconst dX2_of_0 rfl ⟨by decide, by decide⟩ ?_
  refine rr_istore_n (ls' := [some (vR (some x0)), some (vR x1), some (vR x2), some (vI 0), none]) dX2_of_1 rfl (by decide) (fun _ z => by cases z) rfl ?_
  exact hh
set_option maxRecDepth 100000 in
theorem B_X2_of_2 {d : Nat} {h : AbH} {K : Option AbV → AbH → Prop} {x0 : Nat} {x1 : Option Nat} {x2 : Option Nat} {x3 : Int} {bc bs : Nat} (hh : ((12 ≤ x3 → wpCV h (some x0) 1 (fun b2 => Vm d m_X2_layByFirstDate [vR (some b2)] h (kV (fun h1 => K (some (vR (some x0))) h1)))) ∧ (¬ (12 ≤ x3) → wpCV h x1 7 (fun b29 => Vm d m_X8_loanAt [vR (some b29), vI x3] h (kR (fun r4 h3 => wpGR h3 (some x0) 1 3 (fun r5 => wpSI h3 r5 x3 0 (fun h6 => wpGR h6 (some x0) 1 1 (fun r7 => wpSI h6 r7 x3 (-1) (fun h8 => wpGR h8 (some x0) 1 2 (fun r9 => wpSI h8 r9 x3 (-1) (fun h10 => ((r4 ≠ none → wpCV h10 x2 6 (fun b27 => Vm d m_X7_of [vR (some b27), vR x1, vR r4] h10 (kR (fun r12 h11 => wpGR h11 (some x0) 1 0 (fun r13 => wpGI h11 r4 2 1 (fun n14 => wpSI h11 r13 x3 n14 (fun h15 => wpGR h15 (some x0) 1 1 (fun r16 => wpCV h15 x2 6 (fun b26 => Vm d m_X7_earliest [vR (some b26)] h15 (kI (fun n18 h17 => wpSI h17 r16 x3 n18 (fun h19 => wpGR h19 (some x0) 1 2 (fun r20 => wpCV h19 x2 6 (fun b25 => Vm d m_X7_latest [vR (some b25)] h19 (kI (fun n22 h21 => wpSI h21 r20 x3 n22 (fun h23 => in32 (x3 + 1) ∧ Vx (d + 1) m_X2_of bc bs 2 [some (vR (some x0)), some (vR x1), some (vR x2), some (vI (x3 + 1)), none] [] h23 K))))))))))))))))) ∧ (¬ (r4 ≠ none) → in32 (x3 + 1) ∧ Vx (d + 1) m_X2_of bc bs 2 [some (vR (some x0)), some (vR x1), some (vR x2), some (vI (x3 + 1)), none] [] h10 K)))))))))))))) : Vx (d + 1) m_X2_of bc bs 2 [some (vR (some x0)), some (vR x1), some (vR x2), some (vI x3), none] [] h K := by
  refine rr_iload_n dX2_of_2 rfl rfl ?_
  refine rr_bipush dX2_of_3 rfl ⟨by decide, by decide⟩ rfl ?_
  refine rr_icmp_ge (tgt := 89) dX2_of_5 rfl (by decide) (fun hc5 => ?_) (fun hc5 => ?_)
  · have hh := hh.1 hc5
    refine rr_aload_n dX2_of_89 rfl rfl ?_
    refine rr_callW (bc' := bc) (bs' := bs) (q := (some x0)) (av := []) (st := []) mf_X2_layByFirstDate dX2_of_90 rfl q_619 q_621 qs_15 ⟨_, _, rfl⟩ rfl (by decide) (Nat.le_refl _) (Nat.le_refl _) hh (rr_kV fun h1 hh => ?_)
    refine rr_aload_n dX2_of_93 rfl rfl ?_
    exact rr_aret dX2_of_94 rfl (Or.inl ⟨_, rfl⟩) hh
  · have hh := hh.2 hc5
    refine rr_aload_n dX2_of_8 rfl rfl ?_
    refine rr_iload_n dX2_of_9 rfl rfl ?_
    refine rr_callW (bc' := bc) (bs' := bs) (q := x1) (av := [vI x3]) (st := []) mf_X8_loanAt dX2_of_10 rfl q_615 q_503 q_504 ⟨_, _, rfl⟩ rfl (by decide) (Nat.le_refl _) (Nat.le_refl _) hh (rr_kR fun r4 h3 hh => ?_)
    refine rr_astore (ls' := [some (vR (some x0)), some (vR x1), some (vR x2), some (vI x3), some (vR r4)]) dX2_of_13 rfl (by decide) (fun _ z => by cases z) rfl ?_
    refine rr_aload_n dX2_of_15 rfl rfl ?_
    refine rr_getR cf_X2 (j := 3) (by decide) dX2_of_16 rfl q_128 hh (fun r5 hh => ?_)
    refine rr_iload_n dX2_of_19 rfl rfl ?_
    refine rr_iconst dX2_of_20 rfl ⟨by decide, by decide⟩ ?_
    refine rr_iast dX2_of_21 rfl hh (fun h6 hh => ?_)
    refine rr_aload_n dX2_of_22 rfl rfl ?_
    refine rr_getR cf_X2 (j := 1) (by decide) dX2_of_23 rfl q_126 hh (fun r7 hh => ?_)
    refine rr_iload_n dX2_of_26 rfl rfl ?_
    refine rr_iconst dX2_of_27 rfl ⟨by decide, by decide⟩ ?_
    refine rr_iast dX2_of_28 rfl hh (fun h8 hh => ?_)
    refine rr_aload_n dX2_of_29 rfl rfl ?_
    refine rr_getR cf_X2 (j := 2) (by decide) dX2_of_30 rfl q_127 hh (fun r9 hh => ?_)
    refine rr_iload_n dX2_of_33 rfl rfl ?_
    refine rr_iconst dX2_of_34 rfl ⟨by decide, by decide⟩ ?_
    refine rr_iast dX2_of_35 rfl hh (fun h10 hh => ?_)
    refine rr_aload dX2_of_36 rfl rfl ?_
    refine rr_ifnonnull (tgt := 44) dX2_of_38 rfl (by decide) (fun hc38 => ?_) (fun hc38 => ?_)
    · have hh := hh.1 hc38
      refine rr_aload_n dX2_of_44 rfl rfl ?_
      refine rr_aload_n dX2_of_45 rfl rfl ?_
      refine rr_aload dX2_of_46 rfl rfl ?_
      refine rr_callW (bc' := bc) (bs' := bs) (q := x2) (av := [vR x1, vR r4]) (st := []) mf_X7_of dX2_of_48 rfl q_616 q_577 q_578 ⟨_, _, rfl⟩ rfl (by decide) (Nat.le_refl _) (Nat.le_refl _) hh (rr_kR fun r12 h11 hh => ?_)
      refine rr_pop dX2_of_51 rfl (ab_catR _) ?_
      refine rr_aload_n dX2_of_52 rfl rfl ?_
      refine rr_getR cf_X2 (j := 0) (by decide) dX2_of_53 rfl q_125 hh (fun r13 hh => ?_)
      refine rr_iload_n dX2_of_56 rfl rfl ?_
      refine rr_aload dX2_of_57 rfl rfl ?_
      refine rr_getI cf_X3 (j := 1) (by decide) dX2_of_59 rfl q_411 hh (fun n14 hh => ?_)
      refine rr_iast dX2_of_62 rfl hh (fun h15 hh => ?_)
      refine rr_aload_n dX2_of_63 rfl rfl ?_
      refine rr_getR cf_X2 (j := 1) (by decide) dX2_of_64 rfl q_126 hh (fun r16 hh => ?_)
      refine rr_iload_n dX2_of_67 rfl rfl ?_
      refine rr_aload_n dX2_of_68 rfl rfl ?_
      refine rr_callW (bc' := bc) (bs' := bs) (q := x2) (av := []) (st := [vI x3, vR r16]) mf_X7_earliest dX2_of_69 rfl q_617 q_600 q_601 ⟨_, _, rfl⟩ rfl (cs_le _ (Nat.le_of_ble_eq_true rfl)) (Nat.le_refl _) (Nat.le_refl _) hh (rr_kI fun n18 h17 hh => ?_)
      refine rr_iast dX2_of_72 rfl hh (fun h19 hh => ?_)
      refine rr_aload_n dX2_of_73 rfl rfl ?_
      refine rr_getR cf_X2 (j := 2) (by decide) dX2_of_74 rfl q_127 hh (fun r20 hh => ?_)
      refine rr_iload_n dX2_of_77 rfl rfl ?_
      refine rr_aload_n dX2_of_78 rfl rfl ?_
      refine rr_callW (bc' := bc) (bs' := bs) (q := x2) (av := []) (st := [vI x3, vR r20]) mf_X7_latest dX2_of_79 rfl q_618 q_608 q_609 ⟨_, _, rfl⟩ rfl (cs_le _ (Nat.le_of_ble_eq_true rfl)) (Nat.le_refl _) (Nat.le_refl _) hh (rr_kI fun n22 h21 hh => ?_)
      refine rr_iast dX2_of_82 rfl hh (fun h23 hh => ?_)
      obtain ⟨hz24, hh⟩ := hh
      refine rr_iinc (ls' := [some (vR (some x0)), some (vR x1), some (vR x2), some (vI (x3 + 1)), some (vR r4)]) dX2_of_83 rfl rfl (by decide) (fun _ z => by cases z) hz24 rfl ?_
      refine rr_goto (pc' := 2) dX2_of_86 (by decide) ?_
      exact Vx.forget (ls' := [some (vR (some x0)), some (vR x1), some (vR x2), some (vI (x3 + 1)), none]) (And.intro rfl (And.intro rfl (And.intro rfl (And.intro rfl trivial)))) hh
    · have hh := hh.2 hc38
      refine rr_goto (pc' := 83) dX2_of_41 (by decide) ?_
      obtain ⟨hz28, hh⟩ := hh
      refine rr_iinc (ls' := [some (vR (some x0)), some (vR x1), some (vR x2), some (vI (x3 + 1)), some (vR r4)]) dX2_of_83 rfl rfl (by decide) (fun _ z => by cases z) hz28 rfl ?_
      refine rr_goto (pc' := 2) dX2_of_86 (by decide) ?_
      exact Vx.forget (ls' := [some (vR (some x0)), some (vR x1), some (vR x2), some (vI (x3 + 1)), none]) (And.intro rfl (And.intro rfl (And.intro rfl (And.intro rfl trivial)))) hh
theorem dX2_layByFirstDate_0 : decode cX2_layByFirstDate 0 = .ok (.iconst 0, 1) := by decide +kernel
theorem dX2_layByFirstDate_1 : decode cX2_layByFirstDate 1 = .ok (.istore_n 1, 1) := by decide +kernel
theorem dX2_layByFirstDate_2 : decode cX2_layByFirstDate 2 = .ok (.iload_n 1, 1) := by decide +kernel
theorem dX2_layByFirstDate_3 : decode cX2_layByFirstDate 3 = .ok (.bipush 99, 2) := by decide +kernel
theorem dX2_layByFirstDate_5 : decode cX2_layByFirstDate 5 = .ok (.if_icmp .gt 46, 3) := by decide +kernel
theorem dX2_layByFirstDate_8 : decode cX2_layByFirstDate 8 = .ok (.iconst 0, 1) := by decide +kernel
theorem dX2_layByFirstDate_9 : decode cX2_layByFirstDate 9 = .ok (.istore_n 2, 1) := by decide +kernel
theorem dX2_layByFirstDate_10 : decode cX2_layByFirstDate 10 = .ok (.iload_n 2, 1) := by decide +kernel
theorem dX2_layByFirstDate_11 : decode cX2_layByFirstDate 11 = .ok (.bipush 12, 2) := by decide +kernel
theorem dX2_layByFirstDate_13 : decode cX2_layByFirstDate 13 = .ok (.if_icmp .ge 32, 3) := by decide +kernel
theorem dX2_layByFirstDate_16 : decode cX2_layByFirstDate 16 = .ok (.aload_n 0, 1) := by decide +kernel
theorem dX2_layByFirstDate_17 : decode cX2_layByFirstDate 17 = .ok (.getfield 15, 3) := by decide +kernel
theorem dX2_layByFirstDate_20 : decode cX2_layByFirstDate 20 = .ok (.iload_n 2, 1) := by decide +kernel
theorem dX2_layByFirstDate_21 : decode cX2_layByFirstDate 21 = .ok (.iaload, 1) := by decide +kernel
theorem dX2_layByFirstDate_22 : decode cX2_layByFirstDate 22 = .ok (.iload_n 1, 1) := by decide +kernel
theorem dX2_layByFirstDate_23 : decode cX2_layByFirstDate 23 = .ok (.if_icmp .ne 16, 3) := by decide +kernel
theorem dX2_layByFirstDate_26 : decode cX2_layByFirstDate 26 = .ok (.aload_n 0, 1) := by decide +kernel
theorem dX2_layByFirstDate_27 : decode cX2_layByFirstDate 27 = .ok (.getfield 21, 3) := by decide +kernel
theorem dX2_layByFirstDate_30 : decode cX2_layByFirstDate 30 = .ok (.iload_n 2, 1) := by decide +kernel
theorem dX2_layByFirstDate_31 : decode cX2_layByFirstDate 31 = .ok (.iconst 1, 1) := by decide +kernel
theorem dX2_layByFirstDate_32 : decode cX2_layByFirstDate 32 = .ok (.aload_n 0, 1) := by decide +kernel
theorem dX2_layByFirstDate_33 : decode cX2_layByFirstDate 33 = .ok (.iload_n 2, 1) := by decide +kernel
theorem dX2_layByFirstDate_34 : decode cX2_layByFirstDate 34 = .ok (.invokevirtual 52, 3) := by decide +kernel
theorem dX2_layByFirstDate_37 : decode cX2_layByFirstDate 37 = .ok (.iadd, 1) := by decide +kernel
theorem dX2_layByFirstDate_38 : decode cX2_layByFirstDate 38 = .ok (.iastore, 1) := by decide +kernel
theorem dX2_layByFirstDate_39 : decode cX2_layByFirstDate 39 = .ok (.iinc 2 1, 3) := by decide +kernel
theorem dX2_layByFirstDate_42 : decode cX2_layByFirstDate 42 = .ok (.goto (-32), 3) := by decide +kernel
theorem dX2_layByFirstDate_45 : decode cX2_layByFirstDate 45 = .ok (.iinc 1 1, 3) := by decide +kernel
theorem dX2_layByFirstDate_48 : decode cX2_layByFirstDate 48 = .ok (.goto (-46), 3) := by decide +kernel
theorem dX2_layByFirstDate_51 : decode cX2_layByFirstDate 51 = .ok (.return_, 1) := by decide +kernel
set_option maxRecDepth 100000 in
theorem B_X2_layByFirstDate_0 {d : Nat} {h : AbH} {K : Option AbV → AbH → Prop} {x0 : Nat} (hh : Vx (d + 1) m_X2_layByFirstDate 0 0 2 [some (vR (some x0)), some (vI 0), none] [] h K) : Vx (d + 1) m_X2_layByFirstDate 0 0 0 [some (vR (some x0))] [] h K := by
  refine Vx.pad 2 [some (vR (some x0)), none, none] rfl ?_
  refine rr_iconst dX2_layByFirstDate_0 rfl ⟨by decide, by decide⟩ ?_
  refine rr_istore_n (ls' := [some (vR (some x0)), some (vI 0), none]) dX2_layByFirstDate_1 rfl (by decide) (fun _ z => by cases z) rfl ?_
  exact hh
set_option maxRecDepth 100000 in
theorem B_X2_layByFirstDate_2 {d : Nat} {h : AbH} {K : Option AbV → AbH → Prop} {x0 : Nat} {x1 : Int} {bc bs : Nat} (hh : ((99 < x1 → K none h) ∧ (¬ (99 < x1) → Vx (d + 1) m_X2_layByFirstDate bc bs 10 [some (vR (some x0)), some (vI x1), some (vI 0)] [] h K))) : Vx (d + 1) m_X2_layByFirstDate bc bs 2 [some (vR (some x0)), some (vI x1), none] [] h K := by
  refine rr_iload_n dX2_layByFirstDate_2 rfl rfl ?_
  refine rr_bipush dX2_layByFirstDate_3 rfl ⟨by decide, by decide⟩ rfl ?_
  refine rr_icmp_gt (tgt := 51) dX2_layByFirstDate_5 rfl (by decide) (fun hc5 => ?_) (fun hc5 => ?_)
  · have hh := hh.1 hc5
    exact rr_vret dX2_layByFirstDate_51 rfl hh
  · have hh := hh.2 hc5
    refine rr_iconst dX2_layByFirstDate_8 rfl ⟨by decide, by decide⟩ ?_
    refine rr_istore_n (ls' := [some (vR (some x0)), some (vI x1), some (vI 0)]) dX2_layByFirstDate_9 rfl (by decide) (fun _ z => by cases z) rfl ?_
    exact hh
set_option maxRecDepth 100000 in
theorem B_X2_layByFirstDate_10 {d : Nat} {h : AbH} {K : Option AbV → AbH → Prop} {x0 : Nat} {x1 : Int} {x2 : Int} {bc bs : Nat} (hh : ((12 ≤ x2 → in32 (x1 + 1) ∧ Vx (d + 1) m_X2_layByFirstDate bc bs 2 [some (vR (some x0)), some (vI (x1 + 1)), none] [] h K) ∧ (¬ (12 ≤ x2) → wpGR h (some x0) 1 1 (fun r2 => wpLI h r2 x2 (fun n3 => ((n3 ≠ x1 → in32 (x2 + 1) ∧ Vx (d + 1) m_X2_layByFirstDate bc bs 10 [some (vR (some x0)), some (vI x1), some (vI (x2 + 1))] [] h K) ∧ (¬ (n3 ≠ x1) → wpGR h (some x0) 1 3 (fun r5 => wpCV h (some x0) 1 (fun b11 => Vm d m_X2_greatestBefore [vR (some b11), vI x2] h (kI (fun n7 h6 => in32 (1 + n7) ∧ wpSI h6 r5 x2 (1 + n7) (fun h9 => in32 (x2 + 1) ∧ Vx (d + 1) m_X2_layByFirstDate bc bs 10 [some (vR (some x0)), some (vI x1), some (vI (x2 + 1))] [] h9 K)))))))))))) : Vx (d + 1) m_X2_layByFirstDate bc bs 10 [some (vR (some x0)), some (vI x1), some (vI x2)] [] h K := by
  refine rr_iload_n dX2_layByFirstDate_10 rfl rfl ?_
  refine rr_bipush dX2_layByFirstDate_11 rfl ⟨by decide, by decide⟩ rfl ?_
  refine rr_icmp_ge (tgt := 45) dX2_layByFirstDate_13 rfl (by decide) (fun hc13 => ?_) (fun hc13 => ?_)
  · have hh := hh.1 hc13
    obtain ⟨hz1, hh⟩ := hh
    refine rr_iinc (ls' := [some (vR (some x0)), some (vI (x1 + 1)), some (vI x2)]) dX2_layByFirstDate_45 rfl rfl (by decide) (fun _ z => by cases z) hz1 rfl ?_
    refine rr_goto (pc' := 2) dX2_layByFirstDate_48 (by decide) ?_
    exact Vx.forget (ls' := [some (vR (some x0)), some (vI (x1 + 1)), none]) (And.intro rfl (And.intro rfl trivial)) hh
  · have hh := hh.2 hc13
    refine rr_aload_n dX2_layByFirstDate_16 rfl rfl ?_
    refine rr_getR cf_X2 (j := 1) (by decide) dX2_layByFirstDate_17 rfl q_126 hh (fun r2 hh => ?_)
    refine rr_iload_n dX2_layByFirstDate_20 rfl rfl ?_
    refine rr_iald dX2_layByFirstDate_21 rfl hh (fun n3 hh => ?_)
    refine rr_iload_n dX2_layByFirstDate_22 rfl rfl ?_
    refine rr_icmp_ne (tgt := 39) dX2_layByFirstDate_23 rfl (by decide) (fun hc23 => ?_) (fun hc23 => ?_)
    · have hh := hh.1 hc23
      obtain ⟨hz4, hh⟩ := hh
      refine rr_iinc (ls' := [some (vR (some x0)), some (vI x1), some (vI (x2 + 1))]) dX2_layByFirstDate_39 rfl rfl (by decide) (fun _ z => by cases z) hz4 rfl ?_
      refine rr_goto (pc' := 10) dX2_layByFirstDate_42 (by decide) ?_
      exact hh
    · have hh := hh.2 hc23
      refine rr_aload_n dX2_layByFirstDate_26 rfl rfl ?_
      refine rr_getR cf_X2 (j := 3) (by decide) dX2_layByFirstDate_27 rfl q_128 hh (fun r5 hh => ?_)
      refine rr_iload_n dX2_layByFirstDate_30 rfl rfl ?_
      refine rr_iconst dX2_layByFirstDate_31 rfl ⟨by decide, by decide⟩ ?_
      refine rr_aload_n dX2_layByFirstDate_32 rfl rfl ?_
      refine rr_iload_n dX2_layByFirstDate_33 rfl rfl ?_
      refine rr_callW (bc' := bc) (bs' := bs) (q := (some x0)) (av := [vI x2]) (st := [vI 1, vI x2, vR r5]) mf_X2_greatestBefore dX2_layByFirstDate_34 rfl q_623 q_625 qs_16 ⟨_, _, rfl⟩ rfl (cs_le _ (Nat.le_of_ble_eq_true rfl)) (Nat.le_refl _) (Nat.le_refl _) hh (rr_kI fun n7 h6 hh => ?_)
      obtain ⟨hz8, hh⟩ := hh
      refine rr_iadd dX2_layByFirstDate_37 rfl hz8 ?_
      refine rr_iast dX2_layByFirstDate_38 rfl hh (fun h9 hh => ?_)
      obtain ⟨hz10, hh⟩ := hh
      refine rr_iinc (ls' := [some (vR (some x0)), some (vI x1), some (vI (x2 + 1))]) dX2_layByFirstDate_39 rfl rfl (by decide) (fun _ z => by cases z) hz10 rfl ?_
      refine rr_goto (pc' := 10) dX2_layByFirstDate_42 (by decide) ?_
      exact hh
theorem dX2_greatestBefore_0 : decode cX2_greatestBefore 0 = .ok (.iconst 0, 1) := by decide +kernel
theorem dX2_greatestBefore_1 : decode cX2_greatestBefore 1 = .ok (.istore_n 2, 1) := by decide +kernel
theorem dX2_greatestBefore_2 : decode cX2_greatestBefore 2 = .ok (.iconst 0, 1) := by decide +kernel
theorem dX2_greatestBefore_3 : decode cX2_greatestBefore 3 = .ok (.istore_n 3, 1) := by decide +kernel
theorem dX2_greatestBefore_4 : decode cX2_greatestBefore 4 = .ok (.iload_n 3, 1) := by decide +kernel
theorem dX2_greatestBefore_5 : decode cX2_greatestBefore 5 = .ok (.bipush 12, 2) := by decide +kernel
theorem dX2_greatestBefore_7 : decode cX2_greatestBefore 7 = .ok (.if_icmp .ge 29, 3) := by decide +kernel
theorem dX2_greatestBefore_10 : decode cX2_greatestBefore 10 = .ok (.aload_n 0, 1) := by decide +kernel
theorem dX2_greatestBefore_11 : decode cX2_greatestBefore 11 = .ok (.iload_n 3, 1) := by decide +kernel
theorem dX2_greatestBefore_12 : decode cX2_greatestBefore 12 = .ok (.iload_n 1, 1) := by decide +kernel
theorem dX2_greatestBefore_13 : decode cX2_greatestBefore 13 = .ok (.invokevirtual 56, 3) := by decide +kernel
theorem dX2_greatestBefore_16 : decode cX2_greatestBefore 16 = .ok (.ifCond .eq 14, 3) := by decide +kernel
theorem dX2_greatestBefore_19 : decode cX2_greatestBefore 19 = .ok (.iload_n 2, 1) := by decide +kernel
theorem dX2_greatestBefore_20 : decode cX2_greatestBefore 20 = .ok (.aload_n 0, 1) := by decide +kernel
theorem dX2_greatestBefore_21 : decode cX2_greatestBefore 21 = .ok (.getfield 21, 3) := by decide +kernel
theorem dX2_greatestBefore_24 : decode cX2_greatestBefore 24 = .ok (.iload_n 3, 1) := by decide +kernel
theorem dX2_greatestBefore_25 : decode cX2_greatestBefore 25 = .ok (.iaload, 1) := by decide +kernel
theorem dX2_greatestBefore_26 : decode cX2_greatestBefore 26 = .ok (.invokestatic 60, 3) := by decide +kernel
theorem dX2_greatestBefore_29 : decode cX2_greatestBefore 29 = .ok (.istore_n 2, 1) := by decide +kernel
theorem dX2_greatestBefore_30 : decode cX2_greatestBefore 30 = .ok (.iinc 3 1, 3) := by decide +kernel
theorem dX2_greatestBefore_33 : decode cX2_greatestBefore 33 = .ok (.goto (-29), 3) := by decide +kernel
theorem dX2_greatestBefore_36 : decode cX2_greatestBefore 36 = .ok (.iload_n 2, 1) := by decide +kernel
theorem dX2_greatestBefore_37 : decode cX2_greatestBefore 37 = .ok (.ireturn, 1) := by decide +kernel
set_option maxRecDepth 100000 in
theorem B_X2_greatestBefore_0 {d : Nat} {h : AbH} {K : Option AbV → AbH → Prop} {x0 : Nat} {x1 : Int} (hh : Vx (d + 1) m_X2_greatestBefore 0 0 4 [some (vR (some x0)), some (vI x1), some (vI 0), some (vI 0)] [] h K) : Vx (d + 1) m_X2_greatestBefore 0 0 0 [some (vR (some x0)), some (vI x1)] [] h K := by
  refine Vx.pad 2 [some (vR (some x0)), some (vI x1), none, none] rfl ?_
  refine rr_iconst dX2_greatestBefore_0 rfl ⟨by decide, by decide⟩ ?_
  refine rr_istore_n (ls' := [some (vR (some x0)), some (vI x1), some (vI 0), none]) dX2_greatestBefore_1 rfl (by decide) (fun _ z => by cases z) rfl ?_
  refine rr_iconst dX2_greatestBefore_2 rfl ⟨by decide, by decide⟩ ?_
  refine rr_istore_n (ls' := [some (vR (some x0)), some (vI x1), some (vI 0), some (vI 0)]) dX2_greatestBefore_3 rfl (by decide) (fun _ z => by cases z) rfl ?_
  exact hh
set_option maxRecDepth 100000 in
theorem B_X2_greatestBefore_4 {d : Nat} {h : AbH} {K : Option AbV → AbH → Prop} {x0 : Nat} {x1 : Int} {x2 : Int} {x3 : Int} {bc bs : Nat} (hh : ((12 ≤ x3 → K (some (vI x2)) h) ∧ (¬ (12 ≤ x3) → wpCV h (some x0) 1 (fun b7 => Vm d m_X2_isOlder [vR (some b7), vI x3, vI x1] h (kI (fun n2 h1 => ((n2 = 0 → in32 (x3 + 1) ∧ Vx (d + 1) m_X2_greatestBefore bc bs 4 [some (vR (some x0)), some (vI x1), some (vI x2), some (vI (x3 + 1))] [] h1 K) ∧ (¬ (n2 = 0) → wpGR h1 (some x0) 1 3 (fun r4 => wpLI h1 r4 x3 (fun n5 => in32 (x3 + 1) ∧ Vx (d + 1) m_X2_greatestBefore bc bs 4 [some (vR (some x0)), some (vI x1), some (vI (if x2 < n5 then n5 else x2)), some (vI (x3 + 1))] [] h1 K)))))))))) : Vx (d + 1) m_X2_greatestBefore bc bs 4 [some (vR (some x0)), some (vI x1), some (vI x2), some (vI x3)] [] h K := by
  refine rr_iload_n dX2_greatestBefore_4 rfl rfl ?_
  refine rr_bipush dX2_greatestBefore_5 rfl ⟨by decide, by decide⟩ rfl ?_
  refine rr_icmp_ge (tgt := 36) dX2_greatestBefore_7 rfl (by decide) (fun hc7 => ?_) (fun hc7 => ?_)
  · have hh := hh.1 hc7
    refine rr_iload_n dX2_greatestBefore_36 rfl rfl ?_
    exact rr_iret dX2_greatestBefore_37 rfl hh
  · have hh := hh.2 hc7
    refine rr_aload_n dX2_greatestBefore_10 rfl rfl ?_
    refine rr_iload_n dX2_greatestBefore_11 rfl rfl ?_
    refine rr_iload_n dX2_greatestBefore_12 rfl rfl ?_
    refine rr_callW (bc' := bc) (bs' := bs) (q := (some x0)) (av := [vI x3, vI x1]) (st := []) mf_X2_isOlder dX2_greatestBefore_13 rfl q_627 q_628 q_629 ⟨_, _, rfl⟩ rfl (by decide) (Nat.le_refl _) (Nat.le_refl _) hh (rr_kI fun n2 h1 hh => ?_)
    refine rr_if_eq (tgt := 30) dX2_greatestBefore_16 rfl (by decide) (fun hc16 => ?_) (fun hc16 => ?_)
    · have hh := hh.1 hc16
      obtain ⟨hz3, hh⟩ := hh
      refine rr_iinc (ls' := [some (vR (some x0)), some (vI x1), some (vI x2), some (vI (x3 + 1))]) dX2_greatestBefore_30 rfl rfl (by decide) (fun _ z => by cases z) hz3 rfl ?_
      refine rr_goto (pc' := 4) dX2_greatestBefore_33 (by decide) ?_
      exact hh
    · have hh := hh.2 hc16
      refine rr_iload_n dX2_greatestBefore_19 rfl rfl ?_
      refine rr_aload_n dX2_greatestBefore_20 rfl rfl ?_
      refine rr_getR cf_X2 (j := 3) (by decide) dX2_greatestBefore_21 rfl q_128 hh (fun r4 hh => ?_)
      refine rr_iload_n dX2_greatestBefore_24 rfl rfl ?_
      refine rr_iald dX2_greatestBefore_25 rfl hh (fun n5 hh => ?_)
      refine rr_mmax dX2_greatestBefore_26 rfl q_632 q_633 q_9 q_634 (by decide) ?_
      refine rr_istore_n (ls' := [some (vR (some x0)), some (vI x1), some (vI (if x2 < n5 then n5 else x2)), some (vI x3)]) dX2_greatestBefore_29 rfl (by decide) (fun _ z => by cases z) rfl ?_
      obtain ⟨hz6, hh⟩ := hh
      refine rr_iinc (ls' := [some (vR (some x0)), some (vI x1), some (vI (if x2 < n5 then n5 else x2)), some (vI (x3 + 1))]) dX2_greatestBefore_30 rfl rfl (by decide) (fun _ z => by cases z) hz6 rfl ?_
      refine rr_goto (pc' := 4) dX2_greatestBefore_33 (by decide) ?_
      exact hh
theorem dX2_isOlder_0 : decode cX2_isOlder 0 = .ok (.iload_n 1, 1) := by decide +kernel
theorem dX2_isOlder_1 : decode cX2_isOlder 1 = .ok (.iconst 0, 1) := by decide +kernel
theorem dX2_isOlder_2 : decode cX2_isOlder 2 = .ok (.bipush 11, 2) := by decide +kernel
theorem dX2_isOlder_4 : decode cX2_isOlder 4 = .ok (.invokestatic 66, 3) := by decide +kernel
theorem dX2_isOlder_7 : decode cX2_isOlder 7 = .ok (.ifCond .eq 13, 3) := by decide +kernel
theorem dX2_isOlder_10 : decode cX2_isOlder 10 = .ok (.iload_n 2, 1) := by decide +kernel
theorem dX2_isOlder_11 : decode cX2_isOlder 11 = .ok (.iconst 0, 1) := by decide +kernel
theorem dX2_isOlder_12 : decode cX2_isOlder 12 = .ok (.bipush 11, 2) := by decide +kernel
theorem dX2_isOlder_14 : decode cX2_isOlder 14 = .ok (.invokestatic 66, 3) := by decide +kernel
theorem dX2_isOlder_17 : decode cX2_isOlder 17 = .ok (.ifCond .ne 5, 3) := by decide +kernel
theorem dX2_isOlder_20 : decode cX2_isOlder 20 = .ok (.iconst 0, 1) := by decide +kernel
theorem dX2_isOlder_21 : decode cX2_isOlder 21 = .ok (.ireturn, 1) := by decide +kernel
theorem dX2_isOlder_22 : decode cX2_isOlder 22 = .ok (.aload_n 0, 1) := by decide +kernel
theorem dX2_isOlder_23 : decode cX2_isOlder 23 = .ok (.getfield 15, 3) := by decide +kernel
theorem dX2_isOlder_26 : decode cX2_isOlder 26 = .ok (.iload_n 1, 1) := by decide +kernel
theorem dX2_isOlder_27 : decode cX2_isOlder 27 = .ok (.iaload, 1) := by decide +kernel
theorem dX2_isOlder_28 : decode cX2_isOlder 28 = .ok (.iconst (-1), 1) := by decide +kernel
theorem dX2_isOlder_29 : decode cX2_isOlder 29 = .ok (.if_icmp .eq 13, 3) := by decide +kernel
theorem dX2_isOlder_32 : decode cX2_isOlder 32 = .ok (.aload_n 0, 1) := by decide +kernel
theorem dX2_isOlder_33 : decode cX2_isOlder 33 = .ok (.getfield 15, 3) := by decide +kernel
theorem dX2_isOlder_36 : decode cX2_isOlder 36 = .ok (.iload_n 2, 1) := by decide +kernel
theorem dX2_isOlder_37 : decode cX2_isOlder 37 = .ok (.iaload, 1) := by decide +kernel
theorem dX2_isOlder_38 : decode cX2_isOlder 38 = .ok (.iconst (-1), 1) := by decide +kernel
theorem dX2_isOlder_39 : decode cX2_isOlder 39 = .ok (.if_icmp .ne 5, 3) := by decide +kernel
theorem dX2_isOlder_42 : decode cX2_isOlder 42 = .ok (.iconst 0, 1) := by decide +kernel
theorem dX2_isOlder_43 : decode cX2_isOlder 43 = .ok (.ireturn, 1) := by decide +kernel
theorem dX2_isOlder_44 : decode cX2_isOlder 44 = .ok (.aload_n 0, 1) := by decide +kernel
theorem dX2_isOlder_45 : decode cX2_isOlder 45 = .ok (.getfield 9, 3) := by decide +kernel
theorem dX2_isOlder_48 : decode cX2_isOlder 48 = .ok (.iload_n 1, 1) := by decide +kernel
theorem dX2_isOlder_49 : decode cX2_isOlder 49 = .ok (.iaload, 1) := by decide +kernel
theorem dX2_isOlder_50 : decode cX2_isOlder 50 = .ok (.aload_n 0, 1) := by decide +kernel
theorem dX2_isOlder_51 : decode cX2_isOlder 51 = .ok (.getfield 9, 3) := by decide +kernel
theorem dX2_isOlder_54 : decode cX2_isOlder 54 = .ok (.iload_n 2, 1) := by decide +kernel
theorem dX2_isOlder_55 : decode cX2_isOlder 55 = .ok (.iaload, 1) := by decide +kernel
theorem dX2_isOlder_56 : decode cX2_isOlder 56 = .ok (.if_icmp .ne 22, 3) := by decide +kernel
theorem dX2_isOlder_59 : decode cX2_isOlder 59 = .ok (.aload_n 0, 1) := by decide +kernel
theorem dX2_isOlder_60 : decode cX2_isOlder 60 = .ok (.getfield 18, 3) := by decide +kernel
theorem dX2_isOlder_63 : decode cX2_isOlder 63 = .ok (.iload_n 1, 1) := by decide +kernel
theorem dX2_isOlder_64 : decode cX2_isOlder 64 = .ok (.iaload, 1) := by decide +kernel
theorem dX2_isOlder_65 : decode cX2_isOlder 65 = .ok (.aload_n 0, 1) := by decide +kernel
theorem dX2_isOlder_66 : decode cX2_isOlder 66 = .ok (.getfield 15, 3) := by decide +kernel
theorem dX2_isOlder_69 : decode cX2_isOlder 69 = .ok (.iload_n 2, 1) := by decide +kernel
theorem dX2_isOlder_70 : decode cX2_isOlder 70 = .ok (.iaload, 1) := by decide +kernel
theorem dX2_isOlder_71 : decode cX2_isOlder 71 = .ok (.if_icmp .ge 7, 3) := by decide +kernel
theorem dX2_isOlder_74 : decode cX2_isOlder 74 = .ok (.iconst 1, 1) := by decide +kernel
theorem dX2_isOlder_75 : decode cX2_isOlder 75 = .ok (.goto 4, 3) := by decide +kernel
theorem dX2_isOlder_78 : decode cX2_isOlder 78 = .ok (.iconst 0, 1) := by decide +kernel
theorem dX2_isOlder_79 : decode cX2_isOlder 79 = .ok (.ireturn, 1) := by decide +kernel
set_option maxRecDepth 100000 in
theorem B_X2_isOlder_0 {d : Nat} {h : AbH} {K : Option AbV → AbH → Prop} {x0 : Nat} {x1 : Int} {x2 : Int} (hh : Vm d m_X9_within [vI x1, vI 0, vI 11] h (kI (fun n2 h1 => ((n2 = 0 → K (some (vI 0)) h1) ∧ (¬ (n2 = 0) → Vm d m_X9_within [vI x2, vI 0, vI 11] h1 (kI (fun n4 h3 => ((n4 ≠ 0 → wpGR h3 (some x0) 1 1 (fun r5 => wpLI h3 r5 x1 (fun n6 => ((n6 = (-1) → K (some (vI 0)) h3) ∧ (¬ (n6 = (-1)) → wpGR h3 (some x0) 1 1 (fun r7 => wpLI h3 r7 x2 (fun n8 => ((n8 ≠ (-1) → wpGR h3 (some x0) 1 0 (fun r9 => wpLI h3 r9 x1 (fun n10 => wpGR h3 (some x0) 1 0 (fun r11 => wpLI h3 r11 x2 (fun n12 => ((n10 ≠ n12 → K (some (vI 0)) h3) ∧ (¬ (n10 ≠ n12) → wpGR h3 (some x0) 1 2 (fun r13 => wpLI h3 r13 x1 (fun n14 => wpGR h3 (some x0) 1 1 (fun r15 => wpLI h3 r15 x2 (fun n16 => ((n16 ≤ n14 → K (some (vI 0)) h3) ∧ (¬ (n16 ≤ n14) → K (some (vI 1)) h3))))))))))))) ∧ (¬ (n8 ≠ (-1)) → K (some (vI 0)) h3))))))))) ∧ (¬ (n4 ≠ 0) → K (some (vI 0)) h3))))))))) : Vx (d + 1) m_X2_isOlder 0 0 0 [some (vR (some x0)), some (vI x1), some (vI x2)] [] h K := by
  refine rr_iload_n dX2_isOlder_0 rfl rfl ?_
  refine rr_iconst dX2_isOlder_1 rfl ⟨by decide, by decide⟩ ?_
  refine rr_bipush dX2_isOlder_2 rfl ⟨by decide, by decide⟩ rfl ?_
  refine rr_callSN (bc' := 0) (bs' := 0) (av := [vI x1, vI 0, vI 11]) (st := []) mf_X9_within dX2_isOlder_4 rfl qn_11 q_197 rfl (by decide) (Nat.le_refl _) (Nat.le_refl _) hh (rr_kI fun n2 h1 hh => ?_)
  refine rr_if_eq (tgt := 20) dX2_isOlder_7 rfl (by decide) (fun hc7 => ?_) (fun hc7 => ?_)
  · have hh := hh.1 hc7
    refine rr_iconst dX2_isOlder_20 rfl ⟨by decide, by decide⟩ ?_
    exact rr_zret dX2_isOlder_21 rfl rfl hh
  · have hh := hh.2 hc7
    refine rr_iload_n dX2_isOlder_10 rfl rfl ?_
    refine rr_iconst dX2_isOlder_11 rfl ⟨by decide, by decide⟩ ?_
    refine rr_bipush dX2_isOlder_12 rfl ⟨by decide, by decide⟩ rfl ?_
    refine rr_callSN (bc' := 0) (bs' := 0) (av := [vI x2, vI 0, vI 11]) (st := []) mf_X9_within dX2_isOlder_14 rfl qn_11 q_197 rfl (by decide) (Nat.le_refl _) (Nat.le_refl _) hh (rr_kI fun n4 h3 hh => ?_)
    refine rr_if_ne (tgt := 22) dX2_isOlder_17 rfl (by decide) (fun hc17 => ?_) (fun hc17 => ?_)
    · have hh := hh.1 hc17
      refine rr_aload_n dX2_isOlder_22 rfl rfl ?_
      refine rr_getR cf_X2 (j := 1) (by decide) dX2_isOlder_23 rfl q_126 hh (fun r5 hh => ?_)
      refine rr_iload_n dX2_isOlder_26 rfl rfl ?_
      refine rr_iald dX2_isOlder_27 rfl hh (fun n6 hh => ?_)
      refine rr_iconst dX2_isOlder_28 rfl ⟨by decide, by decide⟩ ?_
      refine rr_icmp_eq (tgt := 42) dX2_isOlder_29 rfl (by decide) (fun hc29 => ?_) (fun hc29 => ?_)
      · have hh := hh.1 hc29
        refine rr_iconst dX2_isOlder_42 rfl ⟨by decide, by decide⟩ ?_
        exact rr_zret dX2_isOlder_43 rfl rfl hh
      · have hh := hh.2 hc29
        refine rr_aload_n dX2_isOlder_32 rfl rfl ?_
        refine rr_getR cf_X2 (j := 1) (by decide) dX2_isOlder_33 rfl q_126 hh (fun r7 hh => ?_)
        refine rr_iload_n dX2_isOlder_36 rfl rfl ?_
        refine rr_iald dX2_isOlder_37 rfl hh (fun n8 hh => ?_)
        refine rr_iconst dX2_isOlder_38 rfl ⟨by decide, by decide⟩ ?_
        refine rr_icmp_ne (tgt := 44) dX2_isOlder_39 rfl (by decide) (fun hc39 => ?_) (fun hc39 => ?_)
        · have hh := hh.1 hc39
          refine rr_aload_n dX2_isOlder_44 rfl rfl ?_
          refine rr_getR cf_X2 (j := 0) (by decide) dX2_isOlder_45 rfl q_125 hh (fun r9 hh => ?_)
          refine rr_iload_n dX2_isOlder_48 rfl rfl ?_
          refine rr_iald dX2_isOlder_49 rfl hh (fun n10 hh => ?_)
          refine rr_aload_n dX2_isOlder_50 rfl rfl ?_
          refine rr_getR cf_X2 (j := 0) (by decide) dX2_isOlder_51 rfl q_125 hh (fun r11 hh => ?_)
          refine rr_iload_n dX2_isOlder_54 rfl rfl ?_
          refine rr_iald dX2_isOlder_55 rfl hh (fun n12 hh => ?_)
          refine rr_icmp_ne (tgt := 78) dX2_isOlder_56 rfl (by decide) (fun hc56 => ?_) (fun hc56 => ?_)
          · have hh := hh.1 hc56
            refine rr_iconst dX2_isOlder_78 rfl ⟨by decide, by decide⟩ ?_
            exact rr_zret dX2_isOlder_79 rfl rfl hh
          · have hh := hh.2 hc56
            refine rr_aload_n dX2_isOlder_59 rfl rfl ?_
            refine rr_getR cf_X2 (j := 2) (by decide) dX2_isOlder_60 rfl q_127 hh (fun r13 hh => ?_)
            refine rr_iload_n dX2_isOlder_63 rfl rfl ?_
            refine rr_iald dX2_isOlder_64 rfl hh (fun n14 hh => ?_)
            refine rr_aload_n dX2_isOlder_65 rfl rfl ?_
            refine rr_getR cf_X2 (j := 1) (by decide) dX2_isOlder_66 rfl q_126 hh (fun r15 hh => ?_)
            refine rr_iload_n dX2_isOlder_69 rfl rfl ?_
            refine rr_iald dX2_isOlder_70 rfl hh (fun n16 hh => ?_)
            refine rr_icmp_ge (tgt := 78) dX2_isOlder_71 rfl (by decide) (fun hc71 => ?_) (fun hc71 => ?_)
            · have hh := hh.1 hc71
              refine rr_iconst dX2_isOlder_78 rfl ⟨by decide, by decide⟩ ?_
              exact rr_zret dX2_isOlder_79 rfl rfl hh
            · have hh := hh.2 hc71
              refine rr_iconst dX2_isOlder_74 rfl ⟨by decide, by decide⟩ ?_
              refine rr_goto (pc' := 79) dX2_isOlder_75 (by decide) ?_
              exact rr_zret dX2_isOlder_79 rfl rfl hh
        · have hh := hh.2 hc39
          refine rr_iconst dX2_isOlder_42 rfl ⟨by decide, by decide⟩ ?_
          exact rr_zret dX2_isOlder_43 rfl rfl hh
    · have hh := hh.2 hc17
      refine rr_iconst dX2_isOlder_20 rfl ⟨by decide, by decide⟩ ?_
      exact rr_zret dX2_isOlder_21 rfl rfl hh
theorem dX2_layerOf_0 : decode cX2_layerOf 0 = .ok (.iload_n 1, 1) := by decide +kernel
theorem dX2_layerOf_1 : decode cX2_layerOf 1 = .ok (.iconst 0, 1) := by decide +kernel
theorem dX2_layerOf_2 : decode cX2_layerOf 2 = .ok (.bipush 11, 2) := by decide +kernel
theorem dX2_layerOf_4 : decode cX2_layerOf 4 = .ok (.invokestatic 66, 3) := by decide +kernel
theorem dX2_layerOf_7 : decode cX2_layerOf 7 = .ok (.ifCond .eq 12, 3) := by decide +kernel
theorem dX2_layerOf_10 : decode cX2_layerOf 10 = .ok (.aload_n 0, 1) := by decide +kernel
theorem dX2_layerOf_11 : decode cX2_layerOf 11 = .ok (.getfield 21, 3) := by decide +kernel
theorem dX2_layerOf_14 : decode cX2_layerOf 14 = .ok (.iload_n 1, 1) := by decide +kernel
theorem dX2_layerOf_15 : decode cX2_layerOf 15 = .ok (.iaload, 1) := by decide +kernel
theorem dX2_layerOf_16 : decode cX2_layerOf 16 = .ok (.goto 4, 3) := by decide +kernel
theorem dX2_layerOf_19 : decode cX2_layerOf 19 = .ok (.iconst 0, 1) := by decide +kernel
theorem dX2_layerOf_20 : decode cX2_layerOf 20 = .ok (.ireturn, 1) := by decide +kernel
set_option maxRecDepth 100000 in
theorem B_X2_layerOf_0 {d : Nat} {h : AbH} {K : Option AbV → AbH → Prop} {x0 : Nat} {x1 : Int} (hh : Vm d m_X9_within [vI x1, vI 0, vI 11] h (kI (fun n2 h1 => ((n2 = 0 → K (some (vI 0)) h1) ∧ (¬ (n2 = 0) → wpGR h1 (some x0) 1 3 (fun r3 => wpLI h1 r3 x1 (fun n4 => K (some (vI n4)) h1))))))) : Vx (d + 1) m_X2_layerOf 0 0 0 [some (vR (some x0)), some (vI x1)] [] h K := by
  refine rr_iload_n dX2_layerOf_0 rfl rfl ?_
  refine rr_iconst dX2_layerOf_1 rfl ⟨by decide, by decide⟩ ?_
  refine rr_bipush dX2_layerOf_2 rfl ⟨by decide, by decide⟩ rfl ?_
  refine rr_callSN (bc' := 0) (bs' := 0) (av := [vI x1, vI 0, vI 11]) (st := []) mf_X9_within dX2_layerOf_4 rfl qn_11 q_197 rfl (by decide) (Nat.le_refl _) (Nat.le_refl _) hh (rr_kI fun n2 h1 hh => ?_)
  refine rr_if_eq (tgt := 19) dX2_layerOf_7 rfl (by decide) (fun hc7 => ?_) (fun hc7 => ?_)
  · have hh := hh.1 hc7
    refine rr_iconst dX2_layerOf_19 rfl ⟨by decide, by decide⟩ ?_
    exact rr_iret dX2_layerOf_20 rfl hh
  · have hh := hh.2 hc7
    refine rr_aload_n dX2_layerOf_10 rfl rfl ?_
    refine rr_getR cf_X2 (j := 3) (by decide) dX2_layerOf_11 rfl q_128 hh (fun r3 hh => ?_)
    refine rr_iload_n dX2_layerOf_14 rfl rfl ?_
    refine rr_iald dX2_layerOf_15 rfl hh (fun n4 hh => ?_)
    refine rr_goto (pc' := 20) dX2_layerOf_16 (by decide) ?_
    exact rr_iret dX2_layerOf_20 rfl hh
theorem dX2_olderThan_0 : decode cX2_olderThan 0 = .ok (.iconst 0, 1) := by decide +kernel
theorem dX2_olderThan_1 : decode cX2_olderThan 1 = .ok (.istore_n 2, 1) := by decide +kernel
theorem dX2_olderThan_2 : decode cX2_olderThan 2 = .ok (.iconst 0, 1) := by decide +kernel
theorem dX2_olderThan_3 : decode cX2_olderThan 3 = .ok (.istore_n 3, 1) := by decide +kernel
theorem dX2_olderThan_4 : decode cX2_olderThan 4 = .ok (.iload_n 3, 1) := by decide +kernel
theorem dX2_olderThan_5 : decode cX2_olderThan 5 = .ok (.bipush 12, 2) := by decide +kernel
theorem dX2_olderThan_7 : decode cX2_olderThan 7 = .ok (.if_icmp .ge 21, 3) := by decide +kernel
theorem dX2_olderThan_10 : decode cX2_olderThan 10 = .ok (.aload_n 0, 1) := by decide +kernel
theorem dX2_olderThan_11 : decode cX2_olderThan 11 = .ok (.iload_n 3, 1) := by decide +kernel
theorem dX2_olderThan_12 : decode cX2_olderThan 12 = .ok (.iload_n 1, 1) := by decide +kernel
theorem dX2_olderThan_13 : decode cX2_olderThan 13 = .ok (.invokevirtual 56, 3) := by decide +kernel
theorem dX2_olderThan_16 : decode cX2_olderThan 16 = .ok (.ifCond .eq 6, 3) := by decide +kernel
theorem dX2_olderThan_19 : decode cX2_olderThan 19 = .ok (.iinc 2 1, 3) := by decide +kernel
theorem dX2_olderThan_22 : decode cX2_olderThan 22 = .ok (.iinc 3 1, 3) := by decide +kernel
theorem dX2_olderThan_25 : decode cX2_olderThan 25 = .ok (.goto (-21), 3) := by decide +kernel
theorem dX2_olderThan_28 : decode cX2_olderThan 28 = .ok (.iload_n 2, 1) := by decide +kernel
theorem dX2_olderThan_29 : decode cX2_olderThan 29 = .ok (.ireturn, 1) := by decide +kernel
set_option maxRecDepth 100000 in
theorem B_X2_olderThan_0 {d : Nat} {h : AbH} {K : Option AbV → AbH → Prop} {x0 : Nat} {x1 : Int} (hh : Vx (d + 1) m_X2_olderThan 0 0 4 [some (vR (some x0)), some (vI x1), some (vI 0), some (vI 0)] [] h K) : Vx (d + 1) m_X2_olderThan 0 0 0 [some (vR (some x0)), some (vI x1)] [] h K := by
  refine Vx.pad 2 [some (vR (some x0)), some (vI x1), none, none] rfl ?_
  refine rr_iconst dX2_olderThan_0 rfl ⟨by decide, by decide⟩ ?_
  refine rr_istore_n (ls' := [some (vR (some x0)), some (vI x1), some (vI 0), none]) dX2_olderThan_1 rfl (by decide) (fun _ z => by cases z) rfl ?_
  refine rr_iconst dX2_olderThan_2 rfl ⟨by decide, by decide⟩ ?_
  refine rr_istore_n (ls' := [some (vR (some x0)), some (vI x1), some (vI 0), some (vI 0)]) dX2_olderThan_3 rfl (by decide) (fun _ z => by cases z) rfl ?_
  exact hh
set_option maxRecDepth 100000 in
theorem B_X2_olderThan_4 {d : Nat} {h : AbH} {K : Option AbV → AbH → Prop} {x0 : Nat} {x1 : Int} {x2 : Int} {x3 : Int} {bc bs : Nat} (hh : ((12 ≤ x3 → K (some (vI x2)) h) ∧ (¬ (12 ≤ x3) → wpCV h (some x0) 1 (fun b6 => Vm d m_X2_isOlder [vR (some b6), vI x3, vI x1] h (kI (fun n2 h1 => ((n2 = 0 → in32 (x3 + 1) ∧ Vx (d + 1) m_X2_olderThan bc bs 4 [some (vR (some x0)), some (vI x1), some (vI x2), some (vI (x3 + 1))] [] h1 K) ∧ (¬ (n2 = 0) → in32 (x2 + 1) ∧ in32 (x3 + 1) ∧ Vx (d + 1) m_X2_olderThan bc bs 4 [some (vR (some x0)), some (vI x1), some (vI (x2 + 1)), some (vI (x3 + 1))] [] h1 K)))))))) : Vx (d + 1) m_X2_olderThan bc bs 4 [some (vR (some x0)), some (vI x1), some (vI x2), some (vI x3)] [] h K := by
  refine rr_iload_n dX2_olderThan_4 rfl rfl ?_
  refine rr_bipush dX2_olderThan_5 rfl ⟨by decide, by decide⟩ rfl ?_
  refine rr_icmp_ge (tgt := 28) dX2_olderThan_7 rfl (by decide) (fun hc7 => ?_) (fun hc7 => ?_)
  · have hh := hh.1 hc7
    refine rr_iload_n dX2_olderThan_28 rfl rfl ?_
    exact rr_iret dX2_olderThan_29 rfl hh
  · have hh := hh.2 hc7
    refine rr_aload_n dX2_olderThan_10 rfl rfl ?_
    refine rr_iload_n dX2_olderThan_11 rfl rfl ?_
    refine rr_iload_n dX2_olderThan_12 rfl rfl ?_
    refine rr_callW (bc' := bc) (bs' := bs) (q := (some x0)) (av := [vI x3, vI x1]) (st := []) mf_X2_isOlder dX2_olderThan_13 rfl q_627 q_628 q_629 ⟨_, _, rfl⟩ rfl (by decide) (Nat.le_refl _) (Nat.le_refl _) hh (rr_kI fun n2 h1 hh => ?_)
    refine rr_if_eq (tgt := 22) dX2_olderThan_16 rfl (by decide) (fun hc16 => ?_) (fun hc16 => ?_)
    · have hh := hh.1 hc16
      obtain ⟨hz3, hh⟩ := hh
      refine rr_iinc (ls' := [some (vR (some x0)), some (vI x1), some (vI x2), some (vI (x3 + 1))]) dX2_olderThan_22 rfl rfl (by decide) (fun _ z => by cases z) hz3 rfl ?_
      refine rr_goto (pc' := 4) dX2_olderThan_25 (by decide) ?_
      exact hh
    · have hh := hh.2 hc16
      obtain ⟨hz4, hh⟩ := hh
      refine rr_iinc (ls' := [some (vR (some x0)), some (vI x1), some (vI (x2 + 1)), some (vI x3)]) dX2_olderThan_19 rfl rfl (by decide) (fun _ z => by cases z) hz4 rfl ?_
      obtain ⟨hz5, hh⟩ := hh
      refine rr_iinc (ls' := [some (vR (some x0)), some (vI x1), some (vI (x2 + 1)), some (vI (x3 + 1))]) dX2_olderThan_22 rfl rfl (by decide) (fun _ z => by cases z) hz5 rfl ?_
      refine rr_goto (pc' := 4) dX2_olderThan_25 (by decide) ?_
      exact hh
theorem dX2_greatest_0 : decode cX2_greatest 0 = .ok (.iconst 0, 1) := by decide +kernel
theorem dX2_greatest_1 : decode cX2_greatest 1 = .ok (.istore_n 1, 1) := by decide +kernel
theorem dX2_greatest_2 : decode cX2_greatest 2 = .ok (.aload_n 0, 1) := by decide +kernel
theorem dX2_greatest_3 : decode cX2_greatest 3 = .ok (.getfield 21, 3) := by decide +kernel
theorem dX2_greatest_6 : decode cX2_greatest 6 = .ok (.astore_n 2, 1) := by decide +kernel
theorem dX2_greatest_7 : decode cX2_greatest 7 = .ok (.aload_n 2, 1) := by decide +kernel
theorem dX2_greatest_8 : decode cX2_greatest 8 = .ok (.arraylength, 1) := by decide +kernel
theorem dX2_greatest_9 : decode cX2_greatest 9 = .ok (.istore_n 3, 1) := by decide +kernel
theorem dX2_greatest_10 : decode cX2_greatest 10 = .ok (.iconst 0, 1) := by decide +kernel
theorem dX2_greatest_11 : decode cX2_greatest 11 = .ok (.istore 4, 2) := by decide +kernel
theorem dX2_greatest_13 : decode cX2_greatest 13 = .ok (.iload 4, 2) := by decide +kernel
theorem dX2_greatest_15 : decode cX2_greatest 15 = .ok (.iload_n 3, 1) := by decide +kernel
theorem dX2_greatest_16 : decode cX2_greatest 16 = .ok (.if_icmp .ge 22, 3) := by decide +kernel
theorem dX2_greatest_19 : decode cX2_greatest 19 = .ok (.aload_n 2, 1) := by decide +kernel
theorem dX2_greatest_20 : decode cX2_greatest 20 = .ok (.iload 4, 2) := by decide +kernel
theorem dX2_greatest_22 : decode cX2_greatest 22 = .ok (.iaload, 1) := by decide +kernel
theorem dX2_greatest_23 : decode cX2_greatest 23 = .ok (.istore 5, 2) := by decide +kernel
theorem dX2_greatest_25 : decode cX2_greatest 25 = .ok (.iload_n 1, 1) := by decide +kernel
theorem dX2_greatest_26 : decode cX2_greatest 26 = .ok (.iload 5, 2) := by decide +kernel
theorem dX2_greatest_28 : decode cX2_greatest 28 = .ok (.invokestatic 60, 3) := by decide +kernel
theorem dX2_greatest_31 : decode cX2_greatest 31 = .ok (.istore_n 1, 1) := by decide +kernel
theorem dX2_greatest_32 : decode cX2_greatest 32 = .ok (.iinc 4 1, 3) := by decide +kernel
theorem dX2_greatest_35 : decode cX2_greatest 35 = .ok (.goto (-22), 3) := by decide +kernel
theorem dX2_greatest_38 : decode cX2_greatest 38 = .ok (.iload_n 1, 1) := by decide +kernel
theorem dX2_greatest_39 : decode cX2_greatest 39 = .ok (.ireturn, 1) := by decide +kernel
set_option maxRecDepth 100000 in
theorem B_X2_greatest_0 {d : Nat} {h : AbH} {K : Option AbV → AbH → Prop} {x0 : Nat} (hh : wpGR h (some x0) 1 3 (fun r1 => wpNI h r1 (fun n2 => Vx (d + 1) m_X2_greatest 0 0 13 [some (vR (some x0)), some (vI 0), some (vR r1), some (vI n2), some (vI 0), none] [] h K))) : Vx (d + 1) m_X2_greatest 0 0 0 [some (vR (some x0))] [] h K := by
  refine Vx.pad 5 [some (vR (some x0)), none, none, none, none, none] rfl ?_
  refine rr_iconst dX2_greatest_0 rfl ⟨by decide, by decide⟩ ?_
  refine rr_istore_n (ls' := [some (vR (some x0)), some (vI 0), none, none, none, none]) dX2_greatest_1 rfl (by decide) (fun _ z => by cases z) rfl ?_
  refine rr_aload_n dX2_greatest_2 rfl rfl ?_
  refine rr_getR cf_X2 (j := 3) (by decide) dX2_greatest_3 rfl q_128 hh (fun r1 hh => ?_)
  refine rr_astore_n (ls' := [some (vR (some x0)), some (vI 0), some (vR r1), none, none, none]) dX2_greatest_6 rfl (by decide) (fun _ z => by cases z) rfl ?_
  refine rr_aload_n dX2_greatest_7 rfl rfl ?_
  refine rr_alenI dX2_greatest_8 rfl hh (fun n2 hh => ?_)
  refine rr_istore_n (ls' := [some (vR (some x0)), some (vI 0), some (vR r1), some (vI n2), none, none]) dX2_greatest_9 rfl (by decide) (fun _ z => by cases z) rfl ?_
  refine rr_iconst dX2_greatest_10 rfl ⟨by decide, by decide⟩ ?_
  refine rr_istore (ls' := [some (vR (some x0)), some (vI 0), some (vR r1), some (vI n2), some (vI 0), none]) dX2_greatest_11 rfl (by decide) (fun _ z => by cases z) rfl ?_
  exact hh
set_option maxRecDepth 100000 in
theorem B_X2_greatest_13 {d : Nat} {h : AbH} {K : Option AbV → AbH → Prop} {x0 : Nat} {x1 : Int} {x2 : Option Nat} {x3 : Int} {x4 : Int} {bc bs : Nat} (hh : ((x3 ≤ x4 → K (some (vI x1)) h) ∧ (¬ (x3 ≤ x4) → wpLI h x2 x4 (fun n1 => in32 (x4 + 1) ∧ Vx (d + 1) m_X2_greatest bc bs 13 [some (vR (some x0)), some (vI (if x1 < n1 then n1 else x1)), some (vR x2), some (vI x3), some (vI (x4 + 1)), none] [] h K)))) : Vx (d + 1) m_X2_greatest bc bs 13 [some (vR (some x0)), some (vI x1), some (vR x2), some (vI x3), some (vI x4), none] [] h K := by
  refine rr_iload dX2_greatest_13 rfl rfl ?_
  refine rr_iload_n dX2_greatest_15 rfl rfl ?_
  refine rr_icmp_ge (tgt := 38) dX2_greatest_16 rfl (by decide) (fun hc16 => ?_) (fun hc16 => ?_)
  · have hh := hh.1 hc16
    refine rr_iload_n dX2_greatest_38 rfl rfl ?_
    exact rr_iret dX2_greatest_39 rfl hh
  · have hh := hh.2 hc16
    refine rr_aload_n dX2_greatest_19 rfl rfl ?_
    refine rr_iload dX2_greatest_20 rfl rfl ?_
    refine rr_iald dX2_greatest_22 rfl hh (fun n1 hh => ?_)
    refine rr_istore (ls' := [some (vR (some x0)), some (vI x1), some (vR x2), some (vI x3), some (vI x4), some (vI n1)]) dX2_greatest_23 rfl (by decide) (fun _ z => by cases z) rfl ?_
    refine rr_iload_n dX2_greatest_25 rfl rfl ?_
    refine rr_iload dX2_greatest_26 rfl rfl ?_
    refine rr_mmax dX2_greatest_28 rfl q_632 q_633 q_9 q_634 (by decide) ?_
    refine rr_istore_n (ls' := [some (vR (some x0)), some (vI (if x1 < n1 then n1 else x1)), some (vR x2), some (vI x3), some (vI x4), some (vI n1)]) dX2_greatest_31 rfl (by decide) (fun _ z => by cases z) rfl ?_
    obtain ⟨hz2, hh⟩ := hh
    refine rr_iinc (ls' := [some (vR (some x0)), some (vI (if x1 < n1 then n1 else x1)), some (vR x2), some (vI x3), some (vI (x4 + 1)), some (vI n1)]) dX2_greatest_32 rfl rfl (by decide) (fun _ z => by cases z) hz2 rfl ?_
    refine rr_goto (pc' := 13) dX2_greatest_35 (by decide) ?_
    exact Vx.forget (ls' := [some (vR (some x0)), some (vI (if x1 < n1 then n1 else x1)), some (vR x2), some (vI x3), some (vI (x4 + 1)), none]) (And.intro rfl (And.intro rfl (And.intro rfl (And.intro rfl (And.intro rfl trivial))))) hh
