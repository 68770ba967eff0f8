theorem dX9_init_0 : decode cX9_init 0 = .ok (.aload_n 0, 1) := by decide +kernel
theorem dX9_init_1 : decode cX9_init 1 = .ok (.invokespecial 3, 3) := by decide +kernel
theorem dX9_init_4 : decode cX9_init 4 = .ok (.aload_n 0, 1) := by decide +kernel
theorem dX9_init_5 : decode cX9_init 5 = .ok (.new 9, 3) := by decide +kernel
theorem dX9_init_8 : decode cX9_init 8 = .ok (.dup, 1) := by decide +kernel
theorem dX9_init_9 : decode cX9_init 9 = .ok (.invokespecial 11, 3) := by decide +kernel
theorem dX9_init_12 : decode cX9_init 12 = .ok (.putfield 12, 3) := by decide +kernel
theorem dX9_init_15 : decode cX9_init 15 = .ok (.aload_n 0, 1) := by decide +kernel
theorem dX9_init_16 : decode cX9_init 16 = .ok (.new 16, 3) := by decide +kernel
theorem dX9_init_19 : decode cX9_init 19 = .ok (.dup, 1) := by decide +kernel
theorem dX9_init_20 : decode cX9_init 20 = .ok (.invokespecial 18, 3) := by decide +kernel
theorem dX9_init_23 : decode cX9_init 23 = .ok (.putfield 19, 3) := by decide +kernel
theorem dX9_init_26 : decode cX9_init 26 = .ok (.aload_n 0, 1) := by decide +kernel
theorem dX9_init_27 : decode cX9_init 27 = .ok (.iconst 2, 1) := by decide +kernel
theorem dX9_init_28 : decode cX9_init 28 = .ok (.anewarray 9, 3) := by decide +kernel
theorem dX9_init_31 : decode cX9_init 31 = .ok (.putfield 23, 3) := by decide +kernel
theorem dX9_init_34 : decode cX9_init 34 = .ok (.aload_n 0, 1) := by decide +kernel
theorem dX9_init_35 : decode cX9_init 35 = .ok (.new 27, 3) := by decide +kernel
theorem dX9_init_38 : decode cX9_init 38 = .ok (.dup, 1) := by decide +kernel
theorem dX9_init_39 : decode cX9_init 39 = .ok (.invokespecial 29, 3) := by decide +kernel
theorem dX9_init_42 : decode cX9_init 42 = .ok (.putfield 30, 3) := by decide +kernel
theorem dX9_init_45 : decode cX9_init 45 = .ok (.aload_n 0, 1) := by decide +kernel
theorem dX9_init_46 : decode cX9_init 46 = .ok (.new 34, 3) := by decide +kernel
theorem dX9_init_49 : decode cX9_init 49 = .ok (.dup, 1) := by decide +kernel
theorem dX9_init_50 : decode cX9_init 50 = .ok (.invokespecial 36, 3) := by decide +kernel
theorem dX9_init_53 : decode cX9_init 53 = .ok (.putfield 37, 3) := by decide +kernel
theorem dX9_init_56 : decode cX9_init 56 = .ok (.aload_n 0, 1) := by decide +kernel
theorem dX9_init_57 : decode cX9_init 57 = .ok (.new 41, 3) := by decide +kernel
theorem dX9_init_60 : decode cX9_init 60 = .ok (.dup, 1) := by decide +kernel
theorem dX9_init_61 : decode cX9_init 61 = .ok (.invokespecial 43, 3) := by decide +kernel
theorem dX9_init_64 : decode cX9_init 64 = .ok (.putfield 44, 3) := by decide +kernel
theorem dX9_init_67 : decode cX9_init 67 = .ok (.aload_n 0, 1) := by decide +kernel
theorem dX9_init_68 : decode cX9_init 68 = .ok (.new 48, 3) := by decide +kernel
theorem dX9_init_71 : decode cX9_init 71 = .ok (.dup, 1) := by decide +kernel
theorem dX9_init_72 : decode cX9_init 72 = .ok (.invokespecial 50, 3) := by decide +kernel
theorem dX9_init_75 : decode cX9_init 75 = .ok (.putfield 51, 3) := by decide +kernel
theorem dX9_init_78 : decode cX9_init 78 = .ok (.return_, 1) := by decide +kernel
set_option maxRecDepth 100000 in
theorem B_X9_init_0 {d : Nat} {h : AbH} {K : Option AbV → AbH → Prop} {x0 : Nat} (hh : ∀ q1 : Nat, ab_new h q1 → ∀ h2 : AbH, h2 = hsO h q1 (7, [vR none, vR none, vR none, vR none, vI 0, vI 0]) → Vm d m_X8_init [vR (some q1)] h2 (kV (fun h5 => wpP h5 (some x0) 8 0 (vR (some q1)) (fun h6 => ∀ q7 : Nat, ab_new h6 q7 → ∀ h8 : AbH, h8 = hsO h6 q7 (3, [vR none, vI 0]) → Vm d m_X4_init [vR (some q7)] h8 (kV (fun h11 => wpP h11 (some x0) 8 1 (vR (some q7)) (fun h12 => ∀ q13 : Nat, ab_new h12 q13 → ∀ h14 : AbH, h14 = hsR h12 q13 (7, 2, fun _ => none) → wpP h14 (some x0) 8 2 (vR (some q13)) (fun h17 => ∀ q18 : Nat, ab_new h17 q18 → ∀ h19 : AbH, h19 = hsO h17 q18 (4, [vR none, vI 0, vI 0, vI 0, vI 0, vI 0]) → Vm d m_X5_init [vR (some q18)] h19 (kV (fun h22 => wpP h22 (some x0) 8 3 (vR (some q18)) (fun h23 => ∀ q24 : Nat, ab_new h23 q24 → ∀ h25 : AbH, h25 = hsO h23 q24 (6, [vR none, vR none, vI 0]) → Vm d m_X7_init [vR (some q24)] h25 (kV (fun h28 => wpP h28 (some x0) 8 4 (vR (some q24)) (fun h29 => ∀ q30 : Nat, ab_new h29 q30 → ∀ h31 : AbH, h31 = hsO h29 q30 (1, [vR none, vR none, vR none, vR none]) → Vm d m_X2_init [vR (some q30)] h31 (kV (fun h34 => wpP h34 (some x0) 8 5 (vR (some q30)) (fun h35 => ∀ q36 : Nat, ab_new h35 q36 → ∀ h37 : AbH, h37 = hsO h35 q36 (5, [vR none, vR none, vR none, vR none, vL 0, vI 0, vI 0]) → Vm d m_X6_init [vR (some q36)] h37 (kV (fun h40 => wpP h40 (some x0) 8 6 (vR (some q36)) (fun h41 => K none h41)))))))))))))))))))) : Vx (d + 1) m_X9_init 23 895 0 [some (vR (some x0))] [] h K := by
  refine rr_aload_n dX9_init_0 rfl rfl ?_
  refine rr_objInit dX9_init_1 rfl q_22 q_23 q_24 (by decide) ?_
  refine rr_aload_n dX9_init_4 rfl rfl ?_
  refine rr_new (bc' := 22) (bs' := 889) cf_X8 (fs := [vR none, vR none, vR none, vR none, vI 0, vI 0]) dX9_init_5 rfl q_25 q_26 q_2 (fun j hj => by rcases (show j = 0 ∨ j = 1 ∨ j = 2 ∨ j = 3 ∨ j = 4 ∨ j = 5 by omega) with rfl | rfl | rfl | rfl | rfl | rfl <;> rfl) (by intro v hv; simp only [List.mem_cons, List.not_mem_nil, or_false] at hv; rcases hv with rfl | rfl | rfl | rfl | rfl | rfl <;> first | trivial | exact ⟨by decide, by decide⟩) (by decide) (by decide) (fun q1 hz => ?_)
  have hh := hh q1 hz _ rfl
  generalize hsO h q1 (7, [vR none, vR none, vR none, vR none, vI 0, vI 0]) = h2 at hh ⊢
  refine rr_dup dX9_init_8 rfl rfl ?_
  refine rr_callI (bc' := 18) (bs' := 829) (b := q1) (av := []) (st := [vR (some q1), vR (some x0)]) mf_X8_init rfl rfl dX9_init_9 rfl q_27 q_28 rfl (show 2 ≤ 8 by decide) (by decide) (by decide) hh (rr_kV fun h5 hh => ?_)
  refine rr_put cf_X9 (j := 0) (by decide) dX9_init_12 rfl q_170 rfl (fty := .object "LoanLayers$World") (by decide +kernel) (by first | rfl | exact rn_r _ _ (by first | exact Or.inl ⟨_, rfl⟩ | exact Or.inr ⟨_, rfl⟩)) (by first | rfl | exact rf_r _ _ (by first | exact Or.inl ⟨_, rfl⟩ | exact Or.inr ⟨_, rfl⟩)) hh (fun h6 hh => ?_)
  refine rr_aload_n dX9_init_15 rfl rfl ?_
  refine rr_new (bc' := 17) (bs' := 827) cf_X4 (fs := [vR none, vI 0]) dX9_init_16 rfl q_59 q_60 q_3 (fun j hj => by rcases (show j = 0 ∨ j = 1 by omega) with rfl | rfl <;> rfl) (by intro v hv; simp only [List.mem_cons, List.not_mem_nil, or_false] at hv; rcases hv with rfl | rfl <;> first | trivial | exact ⟨by decide, by decide⟩) (by decide) (by decide) (fun q7 hz => ?_)
  have hh := hh q7 hz _ rfl
  generalize hsO h6 q7 (3, [vR none, vI 0]) = h8 at hh ⊢
  refine rr_dup dX9_init_19 rfl rfl ?_
  refine rr_callIN (bc' := 16) (bs' := 819) (b := q7) (av := []) (st := [vR (some q7), vR (some x0)]) mf_X4_init rfl rfl dX9_init_20 rfl qn_0 q_62 rfl (show 2 ≤ 8 by decide) (by decide) (by decide) hh (rr_kV fun h11 hh => ?_)
  refine rr_putF cf_X9 (j := 1) (by decide) dX9_init_23 rfl q_171 rfl rfl rfl (fty := .object "LoanLayers$Past") (by decide +kernel) (by first | rfl | exact rn_r _ _ (by first | exact Or.inl ⟨_, rfl⟩ | exact Or.inr ⟨_, rfl⟩)) (by first | rfl | exact rf_r _ _ (by first | exact Or.inl ⟨_, rfl⟩ | exact Or.inr ⟨_, rfl⟩)) hh (fun h12 hh => ?_)
  refine rr_aload_n dX9_init_26 rfl rfl ?_
  refine rr_iconst dX9_init_27 rfl ⟨by decide, by decide⟩ ?_
  refine rr_newR (bc' := 15) (bs' := 817) (n := 2) 7 (Or.inr (Or.inr rfl)) dX9_init_28 rfl q_25 rfl (by decide) (by decide) (by decide) (fun q13 hz => ?_)
  have hh := hh q13 hz _ rfl
  generalize hsR h12 q13 (7, 2, fun _ => none) = h14 at hh ⊢
  refine rr_putF cf_X9 (j := 2) (by decide) dX9_init_31 rfl q_172 rfl rfl rfl (fty := .array (.object "LoanLayers$World")) (by decide +kernel) (by first | rfl | exact rn_r _ _ (by first | exact Or.inl ⟨_, rfl⟩ | exact Or.inr ⟨_, rfl⟩)) (by first | rfl | exact rf_r _ _ (by first | exact Or.inl ⟨_, rfl⟩ | exact Or.inr ⟨_, rfl⟩)) hh (fun h17 hh => ?_)
  refine rr_aload_n dX9_init_34 rfl rfl ?_
  refine rr_new (bc' := 14) (bs' := 811) cf_X5 (fs := [vR none, vI 0, vI 0, vI 0, vI 0, vI 0]) dX9_init_35 rfl q_75 q_76 q_4 (fun j hj => by rcases (show j = 0 ∨ j = 1 ∨ j = 2 ∨ j = 3 ∨ j = 4 ∨ j = 5 by omega) with rfl | rfl | rfl | rfl | rfl | rfl <;> rfl) (by intro v hv; simp only [List.mem_cons, List.not_mem_nil, or_false] at hv; rcases hv with rfl | rfl | rfl | rfl | rfl | rfl <;> first | trivial | exact ⟨by decide, by decide⟩) (by decide) (by decide) (fun q18 hz => ?_)
  have hh := hh q18 hz _ rfl
  generalize hsO h17 q18 (4, [vR none, vI 0, vI 0, vI 0, vI 0, vI 0]) = h19 at hh ⊢
  refine rr_dup dX9_init_38 rfl rfl ?_
  refine rr_callIN (bc' := 13) (bs' := 611) (b := q18) (av := []) (st := [vR (some q18), vR (some x0)]) mf_X5_init rfl rfl dX9_init_39 rfl qn_1 q_78 rfl (show 2 ≤ 8 by decide) (by decide) (by decide) hh (rr_kV fun h22 hh => ?_)
  refine rr_putF cf_X9 (j := 3) (by decide) dX9_init_42 rfl q_173 rfl rfl rfl (fty := .object "LoanLayers$Text") (by decide +kernel) (by first | rfl | exact rn_r _ _ (by first | exact Or.inl ⟨_, rfl⟩ | exact Or.inr ⟨_, rfl⟩)) (by first | rfl | exact rf_r _ _ (by first | exact Or.inl ⟨_, rfl⟩ | exact Or.inr ⟨_, rfl⟩)) hh (fun h23 hh => ?_)
  refine rr_aload_n dX9_init_45 rfl rfl ?_
  refine rr_new (bc' := 12) (bs' := 608) cf_X7 (fs := [vR none, vR none, vI 0]) dX9_init_46 rfl q_102 q_103 q_5 (fun j hj => by rcases (show j = 0 ∨ j = 1 ∨ j = 2 by omega) with rfl | rfl | rfl <;> rfl) (by intro v hv; simp only [List.mem_cons, List.not_mem_nil, or_false] at hv; rcases hv with rfl | rfl | rfl <;> first | trivial | exact ⟨by decide, by decide⟩) (by decide) (by decide) (fun q24 hz => ?_)
  have hh := hh q24 hz _ rfl
  generalize hsO h23 q24 (6, [vR none, vR none, vI 0]) = h25 at hh ⊢
  refine rr_dup dX9_init_49 rfl rfl ?_
  refine rr_callIN (bc' := 10) (bs' := 574) (b := q24) (av := []) (st := [vR (some q24), vR (some x0)]) mf_X7_init rfl rfl dX9_init_50 rfl qn_2 q_105 rfl (show 2 ≤ 8 by decide) (by decide) (by decide) hh (rr_kV fun h28 hh => ?_)
  refine rr_putF cf_X9 (j := 4) (by decide) dX9_init_53 rfl q_174 rfl rfl rfl (fty := .object "LoanLayers$Windows") (by decide +kernel) (by first | rfl | exact rn_r _ _ (by first | exact Or.inl ⟨_, rfl⟩ | exact Or.inr ⟨_, rfl⟩)) (by first | rfl | exact rf_r _ _ (by first | exact Or.inl ⟨_, rfl⟩ | exact Or.inr ⟨_, rfl⟩)) hh (fun h29 hh => ?_)
  refine rr_aload_n dX9_init_56 rfl rfl ?_
  refine rr_new (bc' := 9) (bs' := 570) cf_X2 (fs := [vR none, vR none, vR none, vR none]) dX9_init_57 rfl q_119 q_120 q_6 (fun j hj => by rcases (show j = 0 ∨ j = 1 ∨ j = 2 ∨ j = 3 by omega) with rfl | rfl | rfl | rfl <;> rfl) (by intro v hv; simp only [List.mem_cons, List.not_mem_nil, or_false] at hv; rcases hv with rfl | rfl | rfl | rfl <;> first | trivial | exact ⟨by decide, by decide⟩) (by decide) (by decide) (fun q30 hz => ?_)
  have hh := hh q30 hz _ rfl
  generalize hsO h29 q30 (1, [vR none, vR none, vR none, vR none]) = h31 at hh ⊢
  refine rr_dup dX9_init_60 rfl rfl ?_
  refine rr_callIN (bc' := 5) (bs' := 522) (b := q30) (av := []) (st := [vR (some q30), vR (some x0)]) mf_X2_init rfl rfl dX9_init_61 rfl qn_3 q_122 rfl (show 2 ≤ 8 by decide) (by decide) (by decide) hh (rr_kV fun h34 hh => ?_)
  refine rr_putF cf_X9 (j := 5) (by decide) dX9_init_64 rfl q_175 rfl rfl rfl (fty := .object "LoanLayers$Layers") (by decide +kernel) (by first | rfl | exact rn_r _ _ (by first | exact Or.inl ⟨_, rfl⟩ | exact Or.inr ⟨_, rfl⟩)) (by first | rfl | exact rf_r _ _ (by first | exact Or.inl ⟨_, rfl⟩ | exact Or.inr ⟨_, rfl⟩)) hh (fun h35 hh => ?_)
  refine rr_aload_n dX9_init_67 rfl rfl ?_
  refine rr_new (bc' := 4) (bs' := 515) cf_X6 (fs := [vR none, vR none, vR none, vR none, vL 0, vI 0, vI 0]) dX9_init_68 rfl q_138 q_139 q_7 (fun j hj => by rcases (show j = 0 ∨ j = 1 ∨ j = 2 ∨ j = 3 ∨ j = 4 ∨ j = 5 ∨ j = 6 by omega) with rfl | rfl | rfl | rfl | rfl | rfl | rfl <;> rfl) (by intro v hv; simp only [List.mem_cons, List.not_mem_nil, or_false] at hv; rcases hv with rfl | rfl | rfl | rfl | rfl | rfl | rfl <;> first | trivial | exact ⟨by decide, by decide⟩) (by decide) (by decide) (fun q36 hz => ?_)
  have hh := hh q36 hz _ rfl
  generalize hsO h35 q36 (5, [vR none, vR none, vR none, vR none, vL 0, vI 0, vI 0]) = h37 at hh ⊢
  refine rr_dup dX9_init_71 rfl rfl ?_
  refine rr_callIN (bc' := 0) (bs' := 0) (b := q36) (av := []) (st := [vR (some q36), vR (some x0)]) mf_X6_init rfl rfl dX9_init_72 rfl qn_4 q_141 rfl (show 2 ≤ 8 by decide) (by decide) (by decide) hh (rr_kV fun h40 hh => ?_)
  refine rr_putF cf_X9 (j := 6) (by decide) dX9_init_75 rfl q_176 rfl rfl rfl (fty := .object "LoanLayers$Way") (by decide +kernel) (by first | rfl | exact rn_r _ _ (by first | exact Or.inl ⟨_, rfl⟩ | exact Or.inr ⟨_, rfl⟩)) (by first | rfl | exact rf_r _ _ (by first | exact Or.inl ⟨_, rfl⟩ | exact Or.inr ⟨_, rfl⟩)) hh (fun h41 hh => ?_)
  exact rr_vret dX9_init_78 rfl hh
theorem dX9_type_0 : decode cX9_type 0 = .ok (.iload_n 1, 1) := by decide +kernel
theorem dX9_type_1 : decode cX9_type 1 = .ok (.iconst 0, 1) := by decide +kernel
theorem dX9_type_2 : decode cX9_type 2 = .ok (.sipush 255, 3) := by decide +kernel
theorem dX9_type_5 : decode cX9_type 5 = .ok (.invokestatic 55, 3) := by decide +kernel
theorem dX9_type_8 : decode cX9_type 8 = .ok (.ifCond .ne 6, 3) := by decide +kernel
theorem dX9_type_11 : decode cX9_type 11 = .ok (.bipush (-3), 2) := by decide +kernel
theorem dX9_type_13 : decode cX9_type 13 = .ok (.ireturn, 1) := by decide +kernel
theorem dX9_type_14 : decode cX9_type 14 = .ok (.aload_n 0, 1) := by decide +kernel
theorem dX9_type_15 : decode cX9_type 15 = .ok (.getfield 30, 3) := by decide +kernel
theorem dX9_type_18 : decode cX9_type 18 = .ok (.getfield 59, 3) := by decide +kernel
theorem dX9_type_21 : decode cX9_type 21 = .ok (.sipush 200, 3) := by decide +kernel
theorem dX9_type_24 : decode cX9_type 24 = .ok (.if_icmp .lt 6, 3) := by decide +kernel
theorem dX9_type_27 : decode cX9_type 27 = .ok (.bipush (-5), 2) := by decide +kernel
theorem dX9_type_29 : decode cX9_type 29 = .ok (.ireturn, 1) := by decide +kernel
theorem dX9_type_30 : decode cX9_type 30 = .ok (.aload_n 0, 1) := by decide +kernel
theorem dX9_type_31 : decode cX9_type 31 = .ok (.getfield 30, 3) := by decide +kernel
theorem dX9_type_34 : decode cX9_type 34 = .ok (.iload_n 1, 1) := by decide +kernel
theorem dX9_type_35 : decode cX9_type 35 = .ok (.invokevirtual 63, 3) := by decide +kernel
theorem dX9_type_38 : decode cX9_type 38 = .ok (.aload_n 0, 1) := by decide +kernel
theorem dX9_type_39 : decode cX9_type 39 = .ok (.getfield 30, 3) := by decide +kernel
theorem dX9_type_42 : decode cX9_type 42 = .ok (.getfield 59, 3) := by decide +kernel
theorem dX9_type_45 : decode cX9_type 45 = .ok (.ireturn, 1) := by decide +kernel
set_option maxRecDepth 100000 in
theorem B_X9_type_0 {d : Nat} {h : AbH} {K : Option AbV → AbH → Prop} {x0 : Nat} {x1 : Int} (hh : Vm d m_X9_within [vI x1, vI 0, vI 255] h (kI (fun n2 h1 => ((n2 ≠ 0 → wpGR h1 (some x0) 8 3 (fun r3 => wpGI h1 r3 4 1 (fun n4 => ((n4 < 200 → wpGR h1 (some x0) 8 3 (fun r5 => wpCV h1 r5 4 (fun b9 => Vm d m_X5_append [vR (some b9), vI x1] h1 (kV (fun h6 => wpGR h6 (some x0) 8 3 (fun r7 => wpGI h6 r7 4 1 (fun n8 => K (some (vI n8)) h6))))))) ∧ (¬ (n4 < 200) → K (some (vI (-5))) h1))))) ∧ (¬ (n2 ≠ 0) → K (some (vI (-3))) h1))))) : Vx (d + 1) m_X9_type 0 0 0 [some (vR (some x0)), some (vI x1)] [] h K := by
  refine rr_iload_n dX9_type_0 rfl rfl ?_
  refine rr_iconst dX9_type_1 rfl ⟨by decide, by decide⟩ ?_
  refine rr_sipush dX9_type_2 rfl ⟨by decide, by decide⟩ rfl ?_
  refine rr_callS (bc' := 0) (bs' := 0) (av := [vI x1, vI 0, vI 255]) (st := []) mf_X9_within dX9_type_5 rfl q_196 q_197 rfl (by decide) (Nat.le_refl _) (Nat.le_refl _) hh (rr_kI fun n2 h1 hh => ?_)
  refine rr_if_ne (tgt := 14) dX9_type_8 rfl (by decide) (fun hc8 => ?_) (fun hc8 => ?_)
  · have hh := hh.1 hc8
    refine rr_aload_n dX9_type_14 rfl rfl ?_
    refine rr_getR cf_X9 (j := 3) (by decide) dX9_type_15 rfl q_173 hh (fun r3 hh => ?_)
    refine rr_getI cf_X5 (j := 1) (by decide) dX9_type_18 rfl q_83 hh (fun n4 hh => ?_)
    refine rr_sipush dX9_type_21 rfl ⟨by decide, by decide⟩ rfl ?_
    refine rr_icmp_lt (tgt := 30) dX9_type_24 rfl (by decide) (fun hc24 => ?_) (fun hc24 => ?_)
    · have hh := hh.1 hc24
      refine rr_aload_n dX9_type_30 rfl rfl ?_
      refine rr_getR cf_X9 (j := 3) (by decide) dX9_type_31 rfl q_173 hh (fun r5 hh => ?_)
      refine rr_iload_n dX9_type_34 rfl rfl ?_
      refine rr_callW (bc' := 0) (bs' := 0) (q := r5) (av := [vI x1]) (st := []) mf_X5_append dX9_type_35 rfl q_199 q_200 q_201 ⟨_, _, rfl⟩ rfl (by decide) (Nat.le_refl _) (Nat.le_refl _) hh (rr_kV fun h6 hh => ?_)
      refine rr_aload_n dX9_type_38 rfl rfl ?_
      refine rr_getR cf_X9 (j := 3) (by decide) dX9_type_39 rfl q_173 hh (fun r7 hh => ?_)
      refine rr_getI cf_X5 (j := 1) (by decide) dX9_type_42 rfl q_83 hh (fun n8 hh => ?_)
      exact rr_iret dX9_type_45 rfl hh
    · have hh := hh.2 hc24
      refine rr_bipush dX9_type_27 rfl ⟨by decide, by decide⟩ rfl ?_
      exact rr_iret dX9_type_29 rfl hh
  · have hh := hh.2 hc8
    refine rr_bipush dX9_type_11 rfl ⟨by decide, by decide⟩ rfl ?_
    exact rr_iret dX9_type_13 rfl hh
theorem dX9_erase_0 : decode cX9_erase 0 = .ok (.aload_n 0, 1) := by decide +kernel
theorem dX9_erase_1 : decode cX9_erase 1 = .ok (.getfield 30, 3) := by decide +kernel
theorem dX9_erase_4 : decode cX9_erase 4 = .ok (.getfield 59, 3) := by decide +kernel
theorem dX9_erase_7 : decode cX9_erase 7 = .ok (.istore_n 1, 1) := by decide +kernel
theorem dX9_erase_8 : decode cX9_erase 8 = .ok (.aload_n 0, 1) := by decide +kernel
theorem dX9_erase_9 : decode cX9_erase 9 = .ok (.getfield 30, 3) := by decide +kernel
theorem dX9_erase_12 : decode cX9_erase 12 = .ok (.invokevirtual 67, 3) := by decide +kernel
theorem dX9_erase_15 : decode cX9_erase 15 = .ok (.iload_n 1, 1) := by decide +kernel
theorem dX9_erase_16 : decode cX9_erase 16 = .ok (.ireturn, 1) := by decide +kernel
set_option maxRecDepth 100000 in
theorem B_X9_erase_0 {d : Nat} {h : AbH} {K : Option AbV → AbH → Prop} {x0 : Nat} (hh : wpGR h (some x0) 8 3 (fun r1 => wpGI h r1 4 1 (fun n2 => wpGR h (some x0) 8 3 (fun r3 => wpCV h r3 4 (fun b5 => Vm d m_X5_clear [vR (some b5)] h (kV (fun h4 => K (some (vI n2)) h4))))))) : Vx (d + 1) m_X9_erase 0 0 0 [some (vR (some x0))] [] h K := by
  refine Vx.pad 1 [some (vR (some x0)), none] rfl ?_
  refine rr_aload_n dX9_erase_0 rfl rfl ?_
  refine rr_getR cf_X9 (j := 3) (by decide) dX9_erase_1 rfl q_173 hh (fun r1 hh => ?_)
  refine rr_getI cf_X5 (j := 1) (by decide) dX9_erase_4 rfl q_83 hh (fun n2 hh => ?_)
  refine rr_istore_n (ls' := [some (vR (some x0)), some (vI n2)]) dX9_erase_7 rfl (by decide) (fun _ z => by cases z) rfl ?_
  refine rr_aload_n dX9_erase_8 rfl rfl ?_
  refine rr_getR cf_X9 (j := 3) (by decide) dX9_erase_9 rfl q_173 hh (fun r3 hh => ?_)
  refine rr_callW (bc' := 0) (bs' := 0) (q := r3) (av := []) (st := []) mf_X5_clear dX9_erase_12 rfl q_208 q_209 q_210 ⟨_, _, rfl⟩ rfl (by decide) (Nat.le_refl _) (Nat.le_refl _) hh (rr_kV fun h4 hh => ?_)
  refine rr_iload_n dX9_erase_15 rfl rfl ?_
  exact rr_iret dX9_erase_16 rfl hh
theorem dX9_fault_0 : decode cX9_fault 0 = .ok (.aload_n 0, 1) := by decide +kernel
theorem dX9_fault_1 : decode cX9_fault 1 = .ok (.getfield 30, 3) := by decide +kernel
theorem dX9_fault_4 : decode cX9_fault 4 = .ok (.aload_n 0, 1) := by decide +kernel
theorem dX9_fault_5 : decode cX9_fault 5 = .ok (.getfield 12, 3) := by decide +kernel
theorem dX9_fault_8 : decode cX9_fault 8 = .ok (.invokevirtual 70, 3) := by decide +kernel
theorem dX9_fault_11 : decode cX9_fault 11 = .ok (.invokevirtual 74, 3) := by decide +kernel
theorem dX9_fault_14 : decode cX9_fault 14 = .ok (.ireturn, 1) := by decide +kernel
set_option maxRecDepth 100000 in
theorem B_X9_fault_0 {d : Nat} {h : AbH} {K : Option AbV → AbH → Prop} {x0 : Nat} (hh : wpGR h (some x0) 8 3 (fun r1 => wpGR h (some x0) 8 0 (fun r2 => wpCV h r2 7 (fun b12 => Vm d m_X8_copy [vR (some b12)] h (kR (fun r6 h5 => wpCV h5 r1 4 (fun b11 => Vm d m_X5_read [vR (some b11), vR r6] h5 (kI (fun n10 h9 => K (some (vI n10)) h9))))))))) : Vx (d + 1) m_X9_fault 29 210 0 [some (vR (some x0))] [] h K := by
  refine rr_aload_n dX9_fault_0 rfl rfl ?_
  refine rr_getR cf_X9 (j := 3) (by decide) dX9_fault_1 rfl q_173 hh (fun r1 hh => ?_)
  refine rr_aload_n dX9_fault_4 rfl rfl ?_
  refine rr_getR cf_X9 (j := 0) (by decide) dX9_fault_5 rfl q_170 hh (fun r2 hh => ?_)
  refine rr_callW (bc' := 24) (bs' := 144) (q := r2) (av := []) (st := [vR r1]) mf_X8_copy dX9_fault_8 rfl q_216 q_217 q_218 ⟨_, _, rfl⟩ rfl (cs_le _ (Nat.le_of_ble_eq_true rfl)) (by decide) (by decide) hh (rr_kR fun r6 h5 hh => ?_)
  refine rr_callW (bc' := 0) (bs' := 0) (q := r1) (av := [vR r6]) (st := []) mf_X5_read dX9_fault_11 rfl q_227 q_228 q_229 ⟨_, _, rfl⟩ rfl (by decide) (by decide) (by decide) hh (rr_kI fun n10 h9 hh => ?_)
  exact rr_iret dX9_fault_14 rfl hh
theorem dX9_tell_0 : decode cX9_tell 0 = .ok (.aload_n 0, 1) := by decide +kernel
theorem dX9_tell_1 : decode cX9_tell 1 = .ok (.getfield 12, 3) := by decide +kernel
theorem dX9_tell_4 : decode cX9_tell 4 = .ok (.invokevirtual 70, 3) := by decide +kernel
theorem dX9_tell_7 : decode cX9_tell 7 = .ok (.astore_n 1, 1) := by decide +kernel
theorem dX9_tell_8 : decode cX9_tell 8 = .ok (.aload_n 0, 1) := by decide +kernel
theorem dX9_tell_9 : decode cX9_tell 9 = .ok (.getfield 30, 3) := by decide +kernel
theorem dX9_tell_12 : decode cX9_tell 12 = .ok (.aload_n 1, 1) := by decide +kernel
theorem dX9_tell_13 : decode cX9_tell 13 = .ok (.invokevirtual 74, 3) := by decide +kernel
theorem dX9_tell_16 : decode cX9_tell 16 = .ok (.iconst (-1), 1) := by decide +kernel
theorem dX9_tell_17 : decode cX9_tell 17 = .ok (.if_icmp .eq 6, 3) := by decide +kernel
theorem dX9_tell_20 : decode cX9_tell 20 = .ok (.bipush (-4), 2) := by decide +kernel
theorem dX9_tell_22 : decode cX9_tell 22 = .ok (.ireturn, 1) := by decide +kernel
theorem dX9_tell_23 : decode cX9_tell 23 = .ok (.aload_n 0, 1) := by decide +kernel
theorem dX9_tell_24 : decode cX9_tell 24 = .ok (.aload_n 1, 1) := by decide +kernel
theorem dX9_tell_25 : decode cX9_tell 25 = .ok (.putfield 12, 3) := by decide +kernel
theorem dX9_tell_28 : decode cX9_tell 28 = .ok (.aload_n 0, 1) := by decide +kernel
theorem dX9_tell_29 : decode cX9_tell 29 = .ok (.getfield 19, 3) := by decide +kernel
theorem dX9_tell_32 : decode cX9_tell 32 = .ok (.invokevirtual 78, 3) := by decide +kernel
theorem dX9_tell_35 : decode cX9_tell 35 = .ok (.aload_n 0, 1) := by decide +kernel
theorem dX9_tell_36 : decode cX9_tell 36 = .ok (.getfield 30, 3) := by decide +kernel
theorem dX9_tell_39 : decode cX9_tell 39 = .ok (.invokevirtual 67, 3) := by decide +kernel
theorem dX9_tell_42 : decode cX9_tell 42 = .ok (.aload_n 0, 1) := by decide +kernel
theorem dX9_tell_43 : decode cX9_tell 43 = .ok (.getfield 30, 3) := by decide +kernel
theorem dX9_tell_46 : decode cX9_tell 46 = .ok (.getfield 79, 3) := by decide +kernel
theorem dX9_tell_49 : decode cX9_tell 49 = .ok (.ireturn, 1) := by decide +kernel
set_option maxRecDepth 100000 in
theorem B_X9_tell_0 {d : Nat} {h : AbH} {K : Option AbV → AbH → Prop} {x0 : Nat} (hh : wpGR h (some x0) 8 0 (fun r1 => wpCV h r1 7 (fun b21 => Vm d m_X8_copy [vR (some b21)] h (kR (fun r5 h4 => wpGR h4 (some x0) 8 3 (fun r6 => wpCV h4 r6 4 (fun b20 => Vm d m_X5_read [vR (some b20), vR r5] h4 (kI (fun n10 h9 => ((n10 = (-1) → wpP h9 (some x0) 8 0 (vR r5) (fun h11 => wpGR h11 (some x0) 8 1 (fun r12 => wpCV h11 r12 3 (fun b19 => Vm d m_X4_clear [vR (some b19)] h11 (kV (fun h13 => wpGR h13 (some x0) 8 3 (fun r14 => wpCV h13 r14 4 (fun b18 => Vm d m_X5_clear [vR (some b18)] h13 (kV (fun h15 => wpGR h15 (some x0) 8 3 (fun r16 => wpGI h15 r16 4 2 (fun n17 => K (some (vI n17)) h15)))))))))))) ∧ (¬ (n10 = (-1)) → K (some (vI (-4))) h9))))))))))) : Vx (d + 1) m_X9_tell 29 210 0 [some (vR (some x0))] [] h K := by
  refine Vx.pad 1 [some (vR (some x0)), none] rfl ?_
  refine rr_aload_n dX9_tell_0 rfl rfl ?_
  refine rr_getR cf_X9 (j := 0) (by decide) dX9_tell_1 rfl q_170 hh (fun r1 hh => ?_)
  refine rr_callW (bc' := 24) (bs' := 144) (q := r1) (av := []) (st := []) mf_X8_copy dX9_tell_4 rfl q_216 q_217 q_218 ⟨_, _, rfl⟩ rfl (by decide) (by decide) (by decide) hh (rr_kR fun r5 h4 hh => ?_)
  refine rr_astore_n (ls' := [some (vR (some x0)), some (vR r5)]) dX9_tell_7 rfl (by decide) (fun _ z => by cases z) rfl ?_
  refine rr_aload_n dX9_tell_8 rfl rfl ?_
  refine rr_getR cf_X9 (j := 3) (by decide) dX9_tell_9 rfl q_173 hh (fun r6 hh => ?_)
  refine rr_aload_n dX9_tell_12 rfl rfl ?_
  refine rr_callW (bc' := 0) (bs' := 0) (q := r6) (av := [vR r5]) (st := []) mf_X5_read dX9_tell_13 rfl q_227 q_228 q_229 ⟨_, _, rfl⟩ rfl (by decide) (by decide) (by decide) hh (rr_kI fun n10 h9 hh => ?_)
  refine rr_iconst dX9_tell_16 rfl ⟨by decide, by decide⟩ ?_
  refine rr_icmp_eq (tgt := 23) dX9_tell_17 rfl (by decide) (fun hc17 => ?_) (fun hc17 => ?_)
  · have hh := hh.1 hc17
    refine rr_aload_n dX9_tell_23 rfl rfl ?_
    refine rr_aload_n dX9_tell_24 rfl rfl ?_
    refine rr_put cf_X9 (j := 0) (by decide) dX9_tell_25 rfl q_170 rfl (fty := .object "LoanLayers$World") (by decide +kernel) (by first | rfl | exact rn_r _ _ (by first | exact Or.inl ⟨_, rfl⟩ | exact Or.inr ⟨_, rfl⟩)) (by first | rfl | exact rf_r _ _ (by first | exact Or.inl ⟨_, rfl⟩ | exact Or.inr ⟨_, rfl⟩)) hh (fun h11 hh => ?_)
    refine rr_aload_n dX9_tell_28 rfl rfl ?_
    refine rr_getR cf_X9 (j := 1) (by decide) dX9_tell_29 rfl q_171 hh (fun r12 hh => ?_)
    refine rr_callW (bc' := 0) (bs' := 0) (q := r12) (av := []) (st := []) mf_X4_clear dX9_tell_32 rfl q_441 q_442 q_443 ⟨_, _, rfl⟩ rfl (by decide) (Nat.le_refl _) (Nat.le_refl _) hh (rr_kV fun h13 hh => ?_)
    refine rr_aload_n dX9_tell_35 rfl rfl ?_
    refine rr_getR cf_X9 (j := 3) (by decide) dX9_tell_36 rfl q_173 hh (fun r14 hh => ?_)
    refine rr_callW (bc' := 0) (bs' := 0) (q := r14) (av := []) (st := []) mf_X5_clear dX9_tell_39 rfl q_208 q_209 q_210 ⟨_, _, rfl⟩ rfl (by decide) (Nat.le_refl _) (Nat.le_refl _) hh (rr_kV fun h15 hh => ?_)
    refine rr_aload_n dX9_tell_42 rfl rfl ?_
    refine rr_getR cf_X9 (j := 3) (by decide) dX9_tell_43 rfl q_173 hh (fun r16 hh => ?_)
    refine rr_getI cf_X5 (j := 2) (by decide) dX9_tell_46 rfl q_85 hh (fun n17 hh => ?_)
    exact rr_iret dX9_tell_49 rfl hh
  · have hh := hh.2 hc17
    refine rr_bipush dX9_tell_20 rfl ⟨by decide, by decide⟩ rfl ?_
    exact rr_iret dX9_tell_22 rfl hh
theorem dX9_law_0 : decode cX9_law 0 = .ok (.iload_n 1, 1) := by decide +kernel
theorem dX9_law_1 : decode cX9_law 1 = .ok (.invokestatic 82, 3) := by decide +kernel
theorem dX9_law_4 : decode cX9_law 4 = .ok (.ifCond .ne 6, 3) := by decide +kernel
theorem dX9_law_7 : decode cX9_law 7 = .ok (.bipush (-2), 2) := by decide +kernel
theorem dX9_law_9 : decode cX9_law 9 = .ok (.ireturn, 1) := by decide +kernel
theorem dX9_law_10 : decode cX9_law 10 = .ok (.iload_n 2, 1) := by decide +kernel
theorem dX9_law_11 : decode cX9_law 11 = .ok (.iconst 1, 1) := by decide +kernel
theorem dX9_law_12 : decode cX9_law 12 = .ok (.bipush 99, 2) := by decide +kernel
theorem dX9_law_14 : decode cX9_law 14 = .ok (.invokestatic 55, 3) := by decide +kernel
theorem dX9_law_17 : decode cX9_law 17 = .ok (.ifCond .eq 24, 3) := by decide +kernel
theorem dX9_law_20 : decode cX9_law 20 = .ok (.iload_n 3, 1) := by decide +kernel
theorem dX9_law_21 : decode cX9_law 21 = .ok (.invokestatic 86, 3) := by decide +kernel
theorem dX9_law_24 : decode cX9_law 24 = .ok (.ifCond .eq 17, 3) := by decide +kernel
theorem dX9_law_27 : decode cX9_law 27 = .ok (.iload 4, 2) := by decide +kernel
theorem dX9_law_29 : decode cX9_law 29 = .ok (.iconst (-1), 1) := by decide +kernel
theorem dX9_law_30 : decode cX9_law 30 = .ok (.if_icmp .eq 14, 3) := by decide +kernel
theorem dX9_law_33 : decode cX9_law 33 = .ok (.iload 4, 2) := by decide +kernel
theorem dX9_law_35 : decode cX9_law 35 = .ok (.invokestatic 86, 3) := by decide +kernel
theorem dX9_law_38 : decode cX9_law 38 = .ok (.ifCond .ne 6, 3) := by decide +kernel
theorem dX9_law_41 : decode cX9_law 41 = .ok (.bipush (-3), 2) := by decide +kernel
theorem dX9_law_43 : decode cX9_law 43 = .ok (.ireturn, 1) := by decide +kernel
theorem dX9_law_44 : decode cX9_law 44 = .ok (.iload 5, 2) := by decide +kernel
theorem dX9_law_46 : decode cX9_law 46 = .ok (.iconst 0, 1) := by decide +kernel
theorem dX9_law_47 : decode cX9_law 47 = .ok (.iconst 2, 1) := by decide +kernel
theorem dX9_law_48 : decode cX9_law 48 = .ok (.invokestatic 55, 3) := by decide +kernel
theorem dX9_law_51 : decode cX9_law 51 = .ok (.ifCond .eq 16, 3) := by decide +kernel
theorem dX9_law_54 : decode cX9_law 54 = .ok (.iload 5, 2) := by decide +kernel
theorem dX9_law_56 : decode cX9_law 56 = .ok (.ifCond .eq 14, 3) := by decide +kernel
theorem dX9_law_59 : decode cX9_law 59 = .ok (.iload 6, 2) := by decide +kernel
theorem dX9_law_61 : decode cX9_law 61 = .ok (.invokestatic 86, 3) := by decide +kernel
theorem dX9_law_64 : decode cX9_law 64 = .ok (.ifCond .ne 6, 3) := by decide +kernel
theorem dX9_law_67 : decode cX9_law 67 = .ok (.bipush (-3), 2) := by decide +kernel
theorem dX9_law_69 : decode cX9_law 69 = .ok (.ireturn, 1) := by decide +kernel
theorem dX9_law_70 : decode cX9_law 70 = .ok (.iload_n 3, 1) := by decide +kernel
theorem dX9_law_71 : decode cX9_law 71 = .ok (.iload 4, 2) := by decide +kernel
theorem dX9_law_73 : decode cX9_law 73 = .ok (.if_icmp .eq 15, 3) := by decide +kernel
theorem dX9_law_76 : decode cX9_law 76 = .ok (.aload_n 0, 1) := by decide +kernel
theorem dX9_law_77 : decode cX9_law 77 = .ok (.getfield 12, 3) := by decide +kernel
theorem dX9_law_80 : decode cX9_law 80 = .ok (.iload_n 1, 1) := by decide +kernel
theorem dX9_law_81 : decode cX9_law 81 = .ok (.iload_n 2, 1) := by decide +kernel
theorem dX9_law_82 : decode cX9_law 82 = .ok (.invokevirtual 89, 3) := by decide +kernel
theorem dX9_law_85 : decode cX9_law 85 = .ok (.ifCond .eq 6, 3) := by decide +kernel
theorem dX9_law_88 : decode cX9_law 88 = .ok (.bipush (-4), 2) := by decide +kernel
theorem dX9_law_90 : decode cX9_law 90 = .ok (.ireturn, 1) := by decide +kernel
theorem dX9_law_91 : decode cX9_law 91 = .ok (.aload_n 0, 1) := by decide +kernel
theorem dX9_law_92 : decode cX9_law 92 = .ok (.getfield 12, 3) := by decide +kernel
theorem dX9_law_95 : decode cX9_law 95 = .ok (.getfield 93, 3) := by decide +kernel
theorem dX9_law_98 : decode cX9_law 98 = .ok (.bipush 16, 2) := by decide +kernel
theorem dX9_law_100 : decode cX9_law 100 = .ok (.if_icmp .lt 6, 3) := by decide +kernel
theorem dX9_law_103 : decode cX9_law 103 = .ok (.bipush (-5), 2) := by decide +kernel
theorem dX9_law_105 : decode cX9_law 105 = .ok (.ireturn, 1) := by decide +kernel
theorem dX9_law_106 : decode cX9_law 106 = .ok (.aload_n 0, 1) := by decide +kernel
theorem dX9_law_107 : decode cX9_law 107 = .ok (.getfield 12, 3) := by decide +kernel
theorem dX9_law_110 : decode cX9_law 110 = .ok (.invokevirtual 70, 3) := by decide +kernel
theorem dX9_law_113 : decode cX9_law 113 = .ok (.astore 7, 2) := by decide +kernel
theorem dX9_law_115 : decode cX9_law 115 = .ok (.aload 7, 2) := by decide +kernel
theorem dX9_law_117 : decode cX9_law 117 = .ok (.new 96, 3) := by decide +kernel
theorem dX9_law_120 : decode cX9_law 120 = .ok (.dup, 1) := by decide +kernel
theorem dX9_law_121 : decode cX9_law 121 = .ok (.iload_n 1, 1) := by decide +kernel
theorem dX9_law_122 : decode cX9_law 122 = .ok (.iload_n 2, 1) := by decide +kernel
theorem dX9_law_123 : decode cX9_law 123 = .ok (.iload_n 3, 1) := by decide +kernel
theorem dX9_law_124 : decode cX9_law 124 = .ok (.iload 4, 2) := by decide +kernel
theorem dX9_law_126 : decode cX9_law 126 = .ok (.iload 5, 2) := by decide +kernel
theorem dX9_law_128 : decode cX9_law 128 = .ok (.iload 6, 2) := by decide +kernel
theorem dX9_law_130 : decode cX9_law 130 = .ok (.invokespecial 98, 3) := by decide +kernel
theorem dX9_law_133 : decode cX9_law 133 = .ok (.invokevirtual 101, 3) := by decide +kernel
theorem dX9_law_136 : decode cX9_law 136 = .ok (.istore 8, 2) := by decide +kernel
theorem dX9_law_138 : decode cX9_law 138 = .ok (.aload_n 0, 1) := by decide +kernel
theorem dX9_law_139 : decode cX9_law 139 = .ok (.aload 7, 2) := by decide +kernel
theorem dX9_law_141 : decode cX9_law 141 = .ok (.invokevirtual 105, 3) := by decide +kernel
theorem dX9_law_144 : decode cX9_law 144 = .ok (.iload 8, 2) := by decide +kernel
theorem dX9_law_146 : decode cX9_law 146 = .ok (.ireturn, 1) := by decide +kernel
set_option maxRecDepth 100000 in
theorem B_X9_law_0 {d : Nat} {h : AbH} {K : Option AbV → AbH → Prop} {x0 : Nat} {x1 : Int} {x2 : Int} {x3 : Int} {x4 : Int} {x5 : Int} {x6 : Int} (hh : Vm d m_X9_isTongue [vI x1] h (kI (fun n2 h1 => ((n2 ≠ 0 → Vm d m_X9_within [vI x2, vI 1, vI 99] h1 (kI (fun n4 h3 => ((n4 = 0 → K (some (vI (-3))) h3) ∧ (¬ (n4 = 0) → Vm d m_X9_isSound [vI x3] h3 (kI (fun n6 h5 => ((n6 = 0 → K (some (vI (-3))) h5) ∧ (¬ (n6 = 0) → ((x4 = (-1) → Vm d m_X9_within [vI x5, vI 0, vI 2] h5 (kI (fun n8 h7 => ((n8 = 0 → K (some (vI (-3))) h7) ∧ (¬ (n8 = 0) → ((x5 = 0 → Vx (d + 1) m_X9_law 6 72 70 [some (vR (some x0)), some (vI x1), some (vI x2), some (vI x3), some (vI x4), some (vI x5), some (vI x6), none, none] [] h7 K) ∧ (¬ (x5 = 0) → Vm d m_X9_isSound [vI x6] h7 (kI (fun n10 h9 => ((n10 ≠ 0 → Vx (d + 1) m_X9_law 6 72 70 [some (vR (some x0)), some (vI x1), some (vI x2), some (vI x3), some (vI x4), some (vI x5), some (vI x6), none, none] [] h9 K) ∧ (¬ (n10 ≠ 0) → K (some (vI (-3))) h9))))))))))) ∧ (¬ (x4 = (-1)) → Vm d m_X9_isSound [vI x4] h5 (kI (fun n12 h11 => ((n12 ≠ 0 → Vm d m_X9_within [vI x5, vI 0, vI 2] h11 (kI (fun n14 h13 => ((n14 = 0 → K (some (vI (-3))) h13) ∧ (¬ (n14 = 0) → ((x5 = 0 → Vx (d + 1) m_X9_law 6 72 70 [some (vR (some x0)), some (vI x1), some (vI x2), some (vI x3), some (vI x4), some (vI x5), some (vI x6), none, none] [] h13 K) ∧ (¬ (x5 = 0) → Vm d m_X9_isSound [vI x6] h13 (kI (fun n16 h15 => ((n16 ≠ 0 → Vx (d + 1) m_X9_law 6 72 70 [some (vR (some x0)), some (vI x1), some (vI x2), some (vI x3), some (vI x4), some (vI x5), some (vI x6), none, none] [] h15 K) ∧ (¬ (n16 ≠ 0) → K (some (vI (-3))) h15))))))))))) ∧ (¬ (n12 ≠ 0) → K (some (vI (-3))) h11))))))))))))))) ∧ (¬ (n2 ≠ 0) → K (some (vI (-2))) h1))))) : Vx (d + 1) m_X9_law 6 72 0 [some (vR (some x0)), some (vI x1), some (vI x2), some (vI x3), some (vI x4), some (vI x5), some (vI x6)] [] h K := by
  refine Vx.pad 2 [some (vR (some x0)), some (vI x1), some (vI x2), some (vI x3), some (vI x4), some (vI x5), some (vI x6), none, none] rfl ?_
  refine rr_iload_n dX9_law_0 rfl rfl ?_
  refine rr_callS (bc' := 6) (bs' := 72) (av := [vI x1]) (st := []) mf_X9_isTongue dX9_law_1 rfl q_383 q_384 rfl (by decide) (Nat.le_refl _) (Nat.le_refl _) hh (rr_kI fun n2 h1 hh => ?_)
  refine rr_if_ne (tgt := 10) dX9_law_4 rfl (by decide) (fun hc4 => ?_) (fun hc4 => ?_)
  · have hh := hh.1 hc4
    refine rr_iload_n dX9_law_10 rfl rfl ?_
    refine rr_iconst dX9_law_11 rfl ⟨by decide, by decide⟩ ?_
    refine rr_bipush dX9_law_12 rfl ⟨by decide, by decide⟩ rfl ?_
    refine rr_callS (bc' := 6) (bs' := 72) (av := [vI x2, vI 1, vI 99]) (st := []) mf_X9_within dX9_law_14 rfl q_196 q_197 rfl (by decide) (Nat.le_refl _) (Nat.le_refl _) hh (rr_kI fun n4 h3 hh => ?_)
    refine rr_if_eq (tgt := 41) dX9_law_17 rfl (by decide) (fun hc17 => ?_) (fun hc17 => ?_)
    · have hh := hh.1 hc17
      refine rr_bipush dX9_law_41 rfl ⟨by decide, by decide⟩ rfl ?_
      exact rr_iret dX9_law_43 rfl hh
    · have hh := hh.2 hc17
      refine rr_iload_n dX9_law_20 rfl rfl ?_
      refine rr_callS (bc' := 6) (bs' := 72) (av := [vI x3]) (st := []) mf_X9_isSound dX9_law_21 rfl q_449 q_450 rfl (by decide) (Nat.le_refl _) (Nat.le_refl _) hh (rr_kI fun n6 h5 hh => ?_)
      refine rr_if_eq (tgt := 41) dX9_law_24 rfl (by decide) (fun hc24 => ?_) (fun hc24 => ?_)
      · have hh := hh.1 hc24
        refine rr_bipush dX9_law_41 rfl ⟨by decide, by decide⟩ rfl ?_
        exact rr_iret dX9_law_43 rfl hh
      · have hh := hh.2 hc24
        refine rr_iload dX9_law_27 rfl rfl ?_
        refine rr_iconst dX9_law_29 rfl ⟨by decide, by decide⟩ ?_
        refine rr_icmp_eq (tgt := 44) dX9_law_30 rfl (by decide) (fun hc30 => ?_) (fun hc30 => ?_)
        · have hh := hh.1 hc30
          refine rr_iload dX9_law_44 rfl rfl ?_
          refine rr_iconst dX9_law_46 rfl ⟨by decide, by decide⟩ ?_
          refine rr_iconst dX9_law_47 rfl ⟨by decide, by decide⟩ ?_
          refine rr_callS (bc' := 6) (bs' := 72) (av := [vI x5, vI 0, vI 2]) (st := []) mf_X9_within dX9_law_48 rfl q_196 q_197 rfl (by decide) (Nat.le_refl _) (Nat.le_refl _) hh (rr_kI fun n8 h7 hh => ?_)
          refine rr_if_eq (tgt := 67) dX9_law_51 rfl (by decide) (fun hc51 => ?_) (fun hc51 => ?_)
          · have hh := hh.1 hc51
            refine rr_bipush dX9_law_67 rfl ⟨by decide, by decide⟩ rfl ?_
            exact rr_iret dX9_law_69 rfl hh
          · have hh := hh.2 hc51
            refine rr_iload dX9_law_54 rfl rfl ?_
            refine rr_if_eq (tgt := 70) dX9_law_56 rfl (by decide) (fun hc56 => ?_) (fun hc56 => ?_)
            · have hh := hh.1 hc56
              exact hh
            · have hh := hh.2 hc56
              refine rr_iload dX9_law_59 rfl rfl ?_
              refine rr_callS (bc' := 6) (bs' := 72) (av := [vI x6]) (st := []) mf_X9_isSound dX9_law_61 rfl q_449 q_450 rfl (by decide) (Nat.le_refl _) (Nat.le_refl _) hh (rr_kI fun n10 h9 hh => ?_)
              refine rr_if_ne (tgt := 70) dX9_law_64 rfl (by decide) (fun hc64 => ?_) (fun hc64 => ?_)
              · have hh := hh.1 hc64
                exact hh
              · have hh := hh.2 hc64
                refine rr_bipush dX9_law_67 rfl ⟨by decide, by decide⟩ rfl ?_
                exact rr_iret dX9_law_69 rfl hh
        · have hh := hh.2 hc30
          refine rr_iload dX9_law_33 rfl rfl ?_
          refine rr_callS (bc' := 6) (bs' := 72) (av := [vI x4]) (st := []) mf_X9_isSound dX9_law_35 rfl q_449 q_450 rfl (by decide) (Nat.le_refl _) (Nat.le_refl _) hh (rr_kI fun n12 h11 hh => ?_)
          refine rr_if_ne (tgt := 44) dX9_law_38 rfl (by decide) (fun hc38 => ?_) (fun hc38 => ?_)
          · have hh := hh.1 hc38
            refine rr_iload dX9_law_44 rfl rfl ?_
            refine rr_iconst dX9_law_46 rfl ⟨by decide, by decide⟩ ?_
            refine rr_iconst dX9_law_47 rfl ⟨by decide, by decide⟩ ?_
            refine rr_callS (bc' := 6) (bs' := 72) (av := [vI x5, vI 0, vI 2]) (st := []) mf_X9_within dX9_law_48 rfl q_196 q_197 rfl (by decide) (Nat.le_refl _) (Nat.le_refl _) hh (rr_kI fun n14 h13 hh => ?_)
            refine rr_if_eq (tgt := 67) dX9_law_51 rfl (by decide) (fun hc51 => ?_) (fun hc51 => ?_)
            · have hh := hh.1 hc51
              refine rr_bipush dX9_law_67 rfl ⟨by decide, by decide⟩ rfl ?_
              exact rr_iret dX9_law_69 rfl hh
            · have hh := hh.2 hc51
              refine rr_iload dX9_law_54 rfl rfl ?_
              refine rr_if_eq (tgt := 70) dX9_law_56 rfl (by decide) (fun hc56 => ?_) (fun hc56 => ?_)
              · have hh := hh.1 hc56
                exact hh
              · have hh := hh.2 hc56
                refine rr_iload dX9_law_59 rfl rfl ?_
                refine rr_callS (bc' := 6) (bs' := 72) (av := [vI x6]) (st := []) mf_X9_isSound dX9_law_61 rfl q_449 q_450 rfl (by decide) (Nat.le_refl _) (Nat.le_refl _) hh (rr_kI fun n16 h15 hh => ?_)
                refine rr_if_ne (tgt := 70) dX9_law_64 rfl (by decide) (fun hc64 => ?_) (fun hc64 => ?_)
                · have hh := hh.1 hc64
                  exact hh
                · have hh := hh.2 hc64
                  refine rr_bipush dX9_law_67 rfl ⟨by decide, by decide⟩ rfl ?_
                  exact rr_iret dX9_law_69 rfl hh
          · have hh := hh.2 hc38
            refine rr_bipush dX9_law_41 rfl ⟨by decide, by decide⟩ rfl ?_
            exact rr_iret dX9_law_43 rfl hh
  · have hh := hh.2 hc4
    refine rr_bipush dX9_law_7 rfl ⟨by decide, by decide⟩ rfl ?_
    exact rr_iret dX9_law_9 rfl hh
set_option maxRecDepth 100000 in
theorem B_X9_law_70 {d : Nat} {h : AbH} {K : Option AbV → AbH → Prop} {x0 : Nat} {x1 : Int} {x2 : Int} {x3 : Int} {x4 : Int} {x5 : Int} {x6 : Int} {bc bs : Nat} (hh : ((x3 = x4 → K (some (vI (-4))) h) ∧ (¬ (x3 = x4) → wpGR h (some x0) 8 0 (fun r1 => wpCV h r1 7 (fun b22 => Vm d m_X8_hasLaw [vR (some b22), vI x1, vI x2] h (kI (fun n3 h2 => ((n3 = 0 → wpGR h2 (some x0) 8 0 (fun r4 => wpGI h2 r4 7 4 (fun n5 => ((n5 < 16 → wpGR h2 (some x0) 8 0 (fun r6 => 5 ≤ bc ∧ 66 ≤ bs ∧ wpCV h2 r6 7 (fun b21 => Vm d m_X8_copy [vR (some b21)] h2 (kR (fun r10 h9 => 6 ≤ bc ∧ 72 ≤ bs ∧ ∀ q11 : Nat, ab_new h9 q11 → ∀ h12 : AbH, h12 = hsO h9 q11 (0, [vI 0, vI 0, vI 0, vI 0, vI 0, vI 0]) → Vm d m_X1_init [vR (some q11), vI x1, vI x2, vI x3, vI x4, vI x5, vI x6] h12 (kV (fun h13 => wpCV h13 r10 7 (fun b18 => Vm d m_X8_addLaw [vR (some b18), vR (some q11)] h13 (kI (fun n15 h14 => wpCV h14 (some x0) 8 (fun b17 => Vm d m_X9_act [vR (some b17), vR r10] h14 (kV (fun h16 => K (some (vI n15)) h16))))))))))))) ∧ (¬ (n5 < 16) → K (some (vI (-5))) h2))))) ∧ (¬ (n3 = 0) → K (some (vI (-4))) h2))))))))) : Vx (d + 1) m_X9_law bc bs 70 [some (vR (some x0)), some (vI x1), some (vI x2), some (vI x3), some (vI x4), some (vI x5), some (vI x6), none, none] [] h K := by
  refine rr_iload_n dX9_law_70 rfl rfl ?_
  refine rr_iload dX9_law_71 rfl rfl ?_
  refine rr_icmp_eq (tgt := 88) dX9_law_73 rfl (by decide) (fun hc73 => ?_) (fun hc73 => ?_)
  · have hh := hh.1 hc73
    refine rr_bipush dX9_law_88 rfl ⟨by decide, by decide⟩ rfl ?_
    exact rr_iret dX9_law_90 rfl hh
  · have hh := hh.2 hc73
    refine rr_aload_n dX9_law_76 rfl rfl ?_
    refine rr_getR cf_X9 (j := 0) (by decide) dX9_law_77 rfl q_170 hh (fun r1 hh => ?_)
    refine rr_iload_n dX9_law_80 rfl rfl ?_
    refine rr_iload_n dX9_law_81 rfl rfl ?_
    refine rr_callW (bc' := bc) (bs' := bs) (q := r1) (av := [vI x1, vI x2]) (st := []) mf_X8_hasLaw dX9_law_82 rfl q_452 q_311 q_312 ⟨_, _, rfl⟩ rfl (by decide) (Nat.le_refl _) (Nat.le_refl _) hh (rr_kI fun n3 h2 hh => ?_)
    refine rr_if_eq (tgt := 91) dX9_law_85 rfl (by decide) (fun hc85 => ?_) (fun hc85 => ?_)
    · have hh := hh.1 hc85
      refine rr_aload_n dX9_law_91 rfl rfl ?_
      refine rr_getR cf_X9 (j := 0) (by decide) dX9_law_92 rfl q_170 hh (fun r4 hh => ?_)
      refine rr_getI cf_X8 (j := 4) (by decide) dX9_law_95 rfl q_41 hh (fun n5 hh => ?_)
      refine rr_bipush dX9_law_98 rfl ⟨by decide, by decide⟩ rfl ?_
      refine rr_icmp_lt (tgt := 106) dX9_law_100 rfl (by decide) (fun hc100 => ?_) (fun hc100 => ?_)
      · have hh := hh.1 hc100
        refine rr_aload_n dX9_law_106 rfl rfl ?_
        refine rr_getR cf_X9 (j := 0) (by decide) dX9_law_107 rfl q_170 hh (fun r6 hh => ?_)
        obtain ⟨hz7, hz8, hh⟩ := hh
        refine rr_callW (bc' := (bc - 5)) (bs' := (bs - 66)) (q := r6) (av := []) (st := []) mf_X8_copy dX9_law_110 rfl q_216 q_217 q_218 ⟨_, _, rfl⟩ rfl (by decide) (by show _ + 5 ≤ _; omega) (by show _ + 66 ≤ _; omega) hh (rr_kR fun r10 h9 hh => ?_)
        refine rr_astore (ls' := [some (vR (some x0)), some (vI x1), some (vI x2), some (vI x3), some (vI x4), some (vI x5), some (vI x6), some (vR r10), none]) dX9_law_113 rfl (by decide) (fun _ z => by cases z) rfl ?_
        refine rr_aload dX9_law_115 rfl rfl ?_
        obtain ⟨hz19, hz20, hh⟩ := hh
        refine rr_new (bc' := (bc - 6)) (bs' := (bs - 72)) cf_X1 (fs := [vI 0, vI 0, vI 0, vI 0, vI 0, vI 0]) dX9_law_117 rfl q_453 q_327 q_14 (fun j hj => by rcases (show j = 0 ∨ j = 1 ∨ j = 2 ∨ j = 3 ∨ j = 4 ∨ j = 5 by omega) with rfl | rfl | rfl | rfl | rfl | rfl <;> rfl) (by intro v hv; simp only [List.mem_cons, List.not_mem_nil, or_false] at hv; rcases hv with rfl | rfl | rfl | rfl | rfl | rfl <;> first | trivial | exact ⟨by decide, by decide⟩) (by omega) (by omega) (fun q11 hz => ?_)
        have hh := hh q11 hz _ rfl
        generalize hsO h9 q11 (0, [vI 0, vI 0, vI 0, vI 0, vI 0, vI 0]) = h12 at hh ⊢
        refine rr_dup dX9_law_120 rfl rfl ?_
        refine rr_iload_n dX9_law_121 rfl rfl ?_
        refine rr_iload_n dX9_law_122 rfl rfl ?_
        refine rr_iload_n dX9_law_123 rfl rfl ?_
        refine rr_iload dX9_law_124 rfl rfl ?_
        refine rr_iload dX9_law_126 rfl rfl ?_
        refine rr_iload dX9_law_128 rfl rfl ?_
        refine rr_callI (bc' := (bc - 6)) (bs' := (bs - 72)) (b := q11) (av := [vI x1, vI x2, vI x3, vI x4, vI x5, vI x6]) (st := [vR (some q11), vR r10]) mf_X1_init rfl rfl dX9_law_130 rfl q_454 q_329 rfl (cs_le _ (Nat.le_of_ble_eq_true rfl)) (Nat.le_refl _) (Nat.le_refl _) hh (rr_kV fun h13 hh => ?_)
        refine rr_callW (bc' := (bc - 6)) (bs' := (bs - 72)) (q := r10) (av := [vR (some q11)]) (st := []) mf_X8_addLaw dX9_law_133 rfl q_455 q_364 q_365 ⟨_, _, rfl⟩ rfl (by decide) (Nat.le_refl _) (Nat.le_refl _) hh (rr_kI fun n15 h14 hh => ?_)
        refine rr_istore (ls' := [some (vR (some x0)), some (vI x1), some (vI x2), some (vI x3), some (vI x4), some (vI x5), some (vI x6), some (vR r10), some (vI n15)]) dX9_law_136 rfl (by decide) (fun _ z => by cases z) rfl ?_
        refine rr_aload_n dX9_law_138 rfl rfl ?_
        refine rr_aload dX9_law_139 rfl rfl ?_
        refine rr_callW (bc' := (bc - 6)) (bs' := (bs - 72)) (q := (some x0)) (av := [vR r10]) (st := []) mf_X9_act dX9_law_141 rfl q_456 q_458 qs_13 ⟨_, _, rfl⟩ rfl (by decide) (Nat.le_refl _) (Nat.le_refl _) hh (rr_kV fun h16 hh => ?_)
        refine rr_iload dX9_law_144 rfl rfl ?_
        exact rr_iret dX9_law_146 rfl hh
      · have hh := hh.2 hc100
        refine rr_bipush dX9_law_103 rfl ⟨by decide, by decide⟩ rfl ?_
        exact rr_iret dX9_law_105 rfl hh
    · have hh := hh.2 hc85
      refine rr_bipush dX9_law_88 rfl ⟨by decide, by decide⟩ rfl ?_
      exact rr_iret dX9_law_90 rfl hh
theorem dX9_repeal_0 : decode cX9_repeal 0 = .ok (.aload_n 0, 1) := by decide +kernel
theorem dX9_repeal_1 : decode cX9_repeal 1 = .ok (.getfield 12, 3) := by decide +kernel
theorem dX9_repeal_4 : decode cX9_repeal 4 = .ok (.iload_n 1, 1) := by decide +kernel
theorem dX9_repeal_5 : decode cX9_repeal 5 = .ok (.invokevirtual 109, 3) := by decide +kernel
theorem dX9_repeal_8 : decode cX9_repeal 8 = .ok (.ifnonnull 6, 3) := by decide +kernel
theorem dX9_repeal_11 : decode cX9_repeal 11 = .ok (.bipush (-2), 2) := by decide +kernel
theorem dX9_repeal_13 : decode cX9_repeal 13 = .ok (.ireturn, 1) := by decide +kernel
theorem dX9_repeal_14 : decode cX9_repeal 14 = .ok (.aload_n 0, 1) := by decide +kernel
theorem dX9_repeal_15 : decode cX9_repeal 15 = .ok (.getfield 12, 3) := by decide +kernel
theorem dX9_repeal_18 : decode cX9_repeal 18 = .ok (.invokevirtual 70, 3) := by decide +kernel
theorem dX9_repeal_21 : decode cX9_repeal 21 = .ok (.astore_n 2, 1) := by decide +kernel
theorem dX9_repeal_22 : decode cX9_repeal 22 = .ok (.aload_n 2, 1) := by decide +kernel
theorem dX9_repeal_23 : decode cX9_repeal 23 = .ok (.iload_n 1, 1) := by decide +kernel
theorem dX9_repeal_24 : decode cX9_repeal 24 = .ok (.invokevirtual 113, 3) := by decide +kernel
theorem dX9_repeal_27 : decode cX9_repeal 27 = .ok (.aload_n 0, 1) := by decide +kernel
theorem dX9_repeal_28 : decode cX9_repeal 28 = .ok (.aload_n 2, 1) := by decide +kernel
theorem dX9_repeal_29 : decode cX9_repeal 29 = .ok (.invokevirtual 105, 3) := by decide +kernel
theorem dX9_repeal_32 : decode cX9_repeal 32 = .ok (.aload_n 0, 1) := by decide +kernel
theorem dX9_repeal_33 : decode cX9_repeal 33 = .ok (.getfield 12, 3) := by decide +kernel
theorem dX9_repeal_36 : decode cX9_repeal 36 = .ok (.getfield 93, 3) := by decide +kernel
theorem dX9_repeal_39 : decode cX9_repeal 39 = .ok (.ireturn, 1) := by decide +kernel
set_option maxRecDepth 100000 in
theorem B_X9_repeal_0 {d : Nat} {h : AbH} {K : Option AbV → AbH → Prop} {x0 : Nat} {x1 : Int} (hh : wpGR h (some x0) 8 0 (fun r1 => wpCV h r1 7 (fun b16 => Vm d m_X8_lawAt [vR (some b16), vI x1] h (kR (fun r3 h2 => ((r3 ≠ none → wpGR h2 (some x0) 8 0 (fun r4 => wpCV h2 r4 7 (fun b15 => Vm d m_X8_copy [vR (some b15)] h2 (kR (fun r8 h7 => wpCV h7 r8 7 (fun b14 => Vm d m_X8_removeLaw [vR (some b14), vI x1] h7 (kV (fun h9 => wpCV h9 (some x0) 8 (fun b13 => Vm d m_X9_act [vR (some b13), vR r8] h9 (kV (fun h10 => wpGR h10 (some x0) 8 0 (fun r11 => wpGI h10 r11 7 4 (fun n12 => K (some (vI n12)) h10))))))))))))) ∧ (¬ (r3 ≠ none) → K (some (vI (-2))) h2))))))) : Vx (d + 1) m_X9_repeal 5 66 0 [some (vR (some x0)), some (vI x1)] [] h K := by
  refine Vx.pad 1 [some (vR (some x0)), some (vI x1), none] rfl ?_
  refine rr_aload_n dX9_repeal_0 rfl rfl ?_
  refine rr_getR cf_X9 (j := 0) (by decide) dX9_repeal_1 rfl q_170 hh (fun r1 hh => ?_)
  refine rr_iload_n dX9_repeal_4 rfl rfl ?_
  refine rr_callW (bc' := 5) (bs' := 66) (q := r1) (av := [vI x1]) (st := []) mf_X8_lawAt dX9_repeal_5 rfl q_468 q_469 q_470 ⟨_, _, rfl⟩ rfl (by decide) (Nat.le_refl _) (Nat.le_refl _) hh (rr_kR fun r3 h2 hh => ?_)
  refine rr_ifnonnull (tgt := 14) dX9_repeal_8 rfl (by decide) (fun hc8 => ?_) (fun hc8 => ?_)
  · have hh := hh.1 hc8
    refine rr_aload_n dX9_repeal_14 rfl rfl ?_
    refine rr_getR cf_X9 (j := 0) (by decide) dX9_repeal_15 rfl q_170 hh (fun r4 hh => ?_)
    refine rr_callW (bc' := 0) (bs' := 0) (q := r4) (av := []) (st := []) mf_X8_copy dX9_repeal_18 rfl q_216 q_217 q_218 ⟨_, _, rfl⟩ rfl (by decide) (by decide) (by decide) hh (rr_kR fun r8 h7 hh => ?_)
    refine rr_astore_n (ls' := [some (vR (some x0)), some (vI x1), some (vR r8)]) dX9_repeal_21 rfl (by decide) (fun _ z => by cases z) rfl ?_
    refine rr_aload_n dX9_repeal_22 rfl rfl ?_
    refine rr_iload_n dX9_repeal_23 rfl rfl ?_
    refine rr_callW (bc' := 0) (bs' := 0) (q := r8) (av := [vI x1]) (st := []) mf_X8_removeLaw dX9_repeal_24 rfl q_472 q_473 q_474 ⟨_, _, rfl⟩ rfl (by decide) (Nat.le_refl _) (Nat.le_refl _) hh (rr_kV fun h9 hh => ?_)
    refine rr_aload_n dX9_repeal_27 rfl rfl ?_
    refine rr_aload_n dX9_repeal_28 rfl rfl ?_
    refine rr_callW (bc' := 0) (bs' := 0) (q := (some x0)) (av := [vR r8]) (st := []) mf_X9_act dX9_repeal_29 rfl q_456 q_458 qs_13 ⟨_, _, rfl⟩ rfl (by decide) (Nat.le_refl _) (Nat.le_refl _) hh (rr_kV fun h10 hh => ?_)
    refine rr_aload_n dX9_repeal_32 rfl rfl ?_
    refine rr_getR cf_X9 (j := 0) (by decide) dX9_repeal_33 rfl q_170 hh (fun r11 hh => ?_)
    refine rr_getI cf_X8 (j := 4) (by decide) dX9_repeal_36 rfl q_41 hh (fun n12 hh => ?_)
    exact rr_iret dX9_repeal_39 rfl hh
  · have hh := hh.2 hc8
    refine rr_bipush dX9_repeal_11 rfl ⟨by decide, by decide⟩ rfl ?_
    exact rr_iret dX9_repeal_13 rfl hh
theorem dX9_meet_0 : decode cX9_meet 0 = .ok (.iload_n 1, 1) := by decide +kernel
theorem dX9_meet_1 : decode cX9_meet 1 = .ok (.iload_n 2, 1) := by decide +kernel
theorem dX9_meet_2 : decode cX9_meet 2 = .ok (.invokestatic 116, 3) := by decide +kernel
theorem dX9_meet_5 : decode cX9_meet 5 = .ok (.istore 5, 2) := by decide +kernel
theorem dX9_meet_7 : decode cX9_meet 7 = .ok (.iload 5, 2) := by decide +kernel
theorem dX9_meet_9 : decode cX9_meet 9 = .ok (.iconst (-1), 1) := by decide +kernel
theorem dX9_meet_10 : decode cX9_meet 10 = .ok (.if_icmp .ne 6, 3) := by decide +kernel
theorem dX9_meet_13 : decode cX9_meet 13 = .ok (.bipush (-2), 2) := by decide +kernel
theorem dX9_meet_15 : decode cX9_meet 15 = .ok (.ireturn, 1) := by decide +kernel
theorem dX9_meet_16 : decode cX9_meet 16 = .ok (.iload_n 3, 1) := by decide +kernel
theorem dX9_meet_17 : decode cX9_meet 17 = .ok (.invokestatic 120, 3) := by decide +kernel
theorem dX9_meet_20 : decode cX9_meet 20 = .ok (.ifCond .eq 14, 3) := by decide +kernel
theorem dX9_meet_23 : decode cX9_meet 23 = .ok (.iload 4, 2) := by decide +kernel
theorem dX9_meet_25 : decode cX9_meet 25 = .ok (.iload_n 3, 1) := by decide +kernel
theorem dX9_meet_26 : decode cX9_meet 26 = .ok (.bipush 99, 2) := by decide +kernel
theorem dX9_meet_28 : decode cX9_meet 28 = .ok (.invokestatic 55, 3) := by decide +kernel
theorem dX9_meet_31 : decode cX9_meet 31 = .ok (.ifCond .ne 6, 3) := by decide +kernel
theorem dX9_meet_34 : decode cX9_meet 34 = .ok (.bipush (-3), 2) := by decide +kernel
theorem dX9_meet_36 : decode cX9_meet 36 = .ok (.ireturn, 1) := by decide +kernel
theorem dX9_meet_37 : decode cX9_meet 37 = .ok (.aload_n 0, 1) := by decide +kernel
theorem dX9_meet_38 : decode cX9_meet 38 = .ok (.getfield 12, 3) := by decide +kernel
theorem dX9_meet_41 : decode cX9_meet 41 = .ok (.invokevirtual 70, 3) := by decide +kernel
theorem dX9_meet_44 : decode cX9_meet 44 = .ok (.astore 6, 2) := by decide +kernel
theorem dX9_meet_46 : decode cX9_meet 46 = .ok (.aload 6, 2) := by decide +kernel
theorem dX9_meet_48 : decode cX9_meet 48 = .ok (.iload 5, 2) := by decide +kernel
theorem dX9_meet_50 : decode cX9_meet 50 = .ok (.iload_n 3, 1) := by decide +kernel
theorem dX9_meet_51 : decode cX9_meet 51 = .ok (.iload 4, 2) := by decide +kernel
theorem dX9_meet_53 : decode cX9_meet 53 = .ok (.invokevirtual 123, 3) := by decide +kernel
theorem dX9_meet_56 : decode cX9_meet 56 = .ok (.aload_n 0, 1) := by decide +kernel
theorem dX9_meet_57 : decode cX9_meet 57 = .ok (.aload 6, 2) := by decide +kernel
theorem dX9_meet_59 : decode cX9_meet 59 = .ok (.invokevirtual 105, 3) := by decide +kernel
theorem dX9_meet_62 : decode cX9_meet 62 = .ok (.aload_n 0, 1) := by decide +kernel
theorem dX9_meet_63 : decode cX9_meet 63 = .ok (.getfield 12, 3) := by decide +kernel
theorem dX9_meet_66 : decode cX9_meet 66 = .ok (.invokevirtual 127, 3) := by decide +kernel
theorem dX9_meet_69 : decode cX9_meet 69 = .ok (.ireturn, 1) := by decide +kernel
set_option maxRecDepth 100000 in
theorem B_X9_meet_0 {d : Nat} {h : AbH} {K : Option AbV → AbH → Prop} {x0 : Nat} {x1 : Int} {x2 : Int} {x3 : Int} {x4 : Int} (hh : Vm d m_X9_pairOf [vI x1, vI x2] h (kI (fun n2 h1 => ((n2 ≠ (-1) → Vm d m_X9_isDate [vI x3] h1 (kI (fun n4 h3 => ((n4 = 0 → K (some (vI (-3))) h3) ∧ (¬ (n4 = 0) → Vm d m_X9_within [vI x4, vI x3, vI 99] h3 (kI (fun n6 h5 => ((n6 ≠ 0 → wpGR h5 (some x0) 8 0 (fun r7 => wpCV h5 r7 7 (fun b20 => Vm d m_X8_copy [vR (some b20)] h5 (kR (fun r11 h10 => wpCV h10 r11 7 (fun b19 => Vm d m_X8_setMeeting [vR (some b19), vI n2, vI x3, vI x4] h10 (kV (fun h12 => wpCV h12 (some x0) 8 (fun b18 => Vm d m_X9_act [vR (some b18), vR r11] h12 (kV (fun h13 => wpGR h13 (some x0) 8 0 (fun r14 => wpCV h13 r14 7 (fun b17 => Vm d m_X8_meetings [vR (some b17)] h13 (kI (fun n16 h15 => K (some (vI n16)) h15))))))))))))))) ∧ (¬ (n6 ≠ 0) → K (some (vI (-3))) h5))))))))) ∧ (¬ (n2 ≠ (-1)) → K (some (vI (-2))) h1))))) : Vx (d + 1) m_X9_meet 5 66 0 [some (vR (some x0)), some (vI x1), some (vI x2), some (vI x3), some (vI x4)] [] h K := by
  refine Vx.pad 2 [some (vR (some x0)), some (vI x1), some (vI x2), some (vI x3), some (vI x4), none, none] rfl ?_
  refine rr_iload_n dX9_meet_0 rfl rfl ?_
  refine rr_iload_n dX9_meet_1 rfl rfl ?_
  refine rr_callS (bc' := 5) (bs' := 66) (av := [vI x1, vI x2]) (st := []) mf_X9_pairOf dX9_meet_2 rfl q_481 q_381 rfl (by decide) (Nat.le_refl _) (Nat.le_refl _) hh (rr_kI fun n2 h1 hh => ?_)
  refine rr_istore (ls' := [some (vR (some x0)), some (vI x1), some (vI x2), some (vI x3), some (vI x4), some (vI n2), none]) dX9_meet_5 rfl (by decide) (fun _ z => by cases z) rfl ?_
  refine rr_iload dX9_meet_7 rfl rfl ?_
  refine rr_iconst dX9_meet_9 rfl ⟨by decide, by decide⟩ ?_
  refine rr_icmp_ne (tgt := 16) dX9_meet_10 rfl (by decide) (fun hc10 => ?_) (fun hc10 => ?_)
  · have hh := hh.1 hc10
    refine rr_iload_n dX9_meet_16 rfl rfl ?_
    refine rr_callS (bc' := 5) (bs' := 66) (av := [vI x3]) (st := []) mf_X9_isDate dX9_meet_17 rfl q_482 q_483 rfl (by decide) (Nat.le_refl _) (Nat.le_refl _) hh (rr_kI fun n4 h3 hh => ?_)
    refine rr_if_eq (tgt := 34) dX9_meet_20 rfl (by decide) (fun hc20 => ?_) (fun hc20 => ?_)
    · have hh := hh.1 hc20
      refine rr_bipush dX9_meet_34 rfl ⟨by decide, by decide⟩ rfl ?_
      exact rr_iret dX9_meet_36 rfl hh
    · have hh := hh.2 hc20
      refine rr_iload dX9_meet_23 rfl rfl ?_
      refine rr_iload_n dX9_meet_25 rfl rfl ?_
      refine rr_bipush dX9_meet_26 rfl ⟨by decide, by decide⟩ rfl ?_
      refine rr_callS (bc' := 5) (bs' := 66) (av := [vI x4, vI x3, vI 99]) (st := []) mf_X9_within dX9_meet_28 rfl q_196 q_197 rfl (by decide) (Nat.le_refl _) (Nat.le_refl _) hh (rr_kI fun n6 h5 hh => ?_)
      refine rr_if_ne (tgt := 37) dX9_meet_31 rfl (by decide) (fun hc31 => ?_) (fun hc31 => ?_)
      · have hh := hh.1 hc31
        refine rr_aload_n dX9_meet_37 rfl rfl ?_
        refine rr_getR cf_X9 (j := 0) (by decide) dX9_meet_38 rfl q_170 hh (fun r7 hh => ?_)
        refine rr_callW (bc' := 0) (bs' := 0) (q := r7) (av := []) (st := []) mf_X8_copy dX9_meet_41 rfl q_216 q_217 q_218 ⟨_, _, rfl⟩ rfl (by decide) (by decide) (by decide) hh (rr_kR fun r11 h10 hh => ?_)
        refine rr_astore (ls' := [some (vR (some x0)), some (vI x1), some (vI x2), some (vI x3), some (vI x4), some (vI n2), some (vR r11)]) dX9_meet_44 rfl (by decide) (fun _ z => by cases z) rfl ?_
        refine rr_aload dX9_meet_46 rfl rfl ?_
        refine rr_iload dX9_meet_48 rfl rfl ?_
        refine rr_iload_n dX9_meet_50 rfl rfl ?_
        refine rr_iload dX9_meet_51 rfl rfl ?_
        refine rr_callW (bc' := 0) (bs' := 0) (q := r11) (av := [vI n2, vI x3, vI x4]) (st := []) mf_X8_setMeeting dX9_meet_53 rfl q_485 q_223 q_224 ⟨_, _, rfl⟩ rfl (by decide) (Nat.le_refl _) (Nat.le_refl _) hh (rr_kV fun h12 hh => ?_)
        refine rr_aload_n dX9_meet_56 rfl rfl ?_
        refine rr_aload dX9_meet_57 rfl rfl ?_
        refine rr_callW (bc' := 0) (bs' := 0) (q := (some x0)) (av := [vR r11]) (st := []) mf_X9_act dX9_meet_59 rfl q_456 q_458 qs_13 ⟨_, _, rfl⟩ rfl (by decide) (Nat.le_refl _) (Nat.le_refl _) hh (rr_kV fun h13 hh => ?_)
        refine rr_aload_n dX9_meet_62 rfl rfl ?_
        refine rr_getR cf_X9 (j := 0) (by decide) dX9_meet_63 rfl q_170 hh (fun r14 hh => ?_)
        refine rr_callW (bc' := 0) (bs' := 0) (q := r14) (av := []) (st := []) mf_X8_meetings dX9_meet_66 rfl q_486 q_487 q_488 ⟨_, _, rfl⟩ rfl (by decide) (Nat.le_refl _) (Nat.le_refl _) hh (rr_kI fun n16 h15 hh => ?_)
        exact rr_iret dX9_meet_69 rfl hh
      · have hh := hh.2 hc31
        refine rr_bipush dX9_meet_34 rfl ⟨by decide, by decide⟩ rfl ?_
        exact rr_iret dX9_meet_36 rfl hh
  · have hh := hh.2 hc10
    refine rr_bipush dX9_meet_13 rfl ⟨by decide, by decide⟩ rfl ?_
    exact rr_iret dX9_meet_15 rfl hh
theorem dX9_part_0 : decode cX9_part 0 = .ok (.iload_n 1, 1) := by decide +kernel
theorem dX9_part_1 : decode cX9_part 1 = .ok (.iload_n 2, 1) := by decide +kernel
theorem dX9_part_2 : decode cX9_part 2 = .ok (.invokestatic 116, 3) := by decide +kernel
theorem dX9_part_5 : decode cX9_part 5 = .ok (.istore_n 3, 1) := by decide +kernel
theorem dX9_part_6 : decode cX9_part 6 = .ok (.aload_n 0, 1) := by decide +kernel
theorem dX9_part_7 : decode cX9_part 7 = .ok (.getfield 12, 3) := by decide +kernel
theorem dX9_part_10 : decode cX9_part 10 = .ok (.iload_n 3, 1) := by decide +kernel
theorem dX9_part_11 : decode cX9_part 11 = .ok (.invokevirtual 131, 3) := by decide +kernel
theorem dX9_part_14 : decode cX9_part 14 = .ok (.iconst (-1), 1) := by decide +kernel
theorem dX9_part_15 : decode cX9_part 15 = .ok (.if_icmp .ne 6, 3) := by decide +kernel
theorem dX9_part_18 : decode cX9_part 18 = .ok (.bipush (-2), 2) := by decide +kernel
theorem dX9_part_20 : decode cX9_part 20 = .ok (.ireturn, 1) := by decide +kernel
theorem dX9_part_21 : decode cX9_part 21 = .ok (.aload_n 0, 1) := by decide +kernel
theorem dX9_part_22 : decode cX9_part 22 = .ok (.getfield 12, 3) := by decide +kernel
theorem dX9_part_25 : decode cX9_part 25 = .ok (.invokevirtual 70, 3) := by decide +kernel
theorem dX9_part_28 : decode cX9_part 28 = .ok (.astore 4, 2) := by decide +kernel
theorem dX9_part_30 : decode cX9_part 30 = .ok (.aload 4, 2) := by decide +kernel
theorem dX9_part_32 : decode cX9_part 32 = .ok (.iload_n 3, 1) := by decide +kernel
theorem dX9_part_33 : decode cX9_part 33 = .ok (.iconst (-1), 1) := by decide +kernel
theorem dX9_part_34 : decode cX9_part 34 = .ok (.iconst (-1), 1) := by decide +kernel
theorem dX9_part_35 : decode cX9_part 35 = .ok (.invokevirtual 123, 3) := by decide +kernel
theorem dX9_part_38 : decode cX9_part 38 = .ok (.aload_n 0, 1) := by decide +kernel
theorem dX9_part_39 : decode cX9_part 39 = .ok (.aload 4, 2) := by decide +kernel
theorem dX9_part_41 : decode cX9_part 41 = .ok (.invokevirtual 105, 3) := by decide +kernel
theorem dX9_part_44 : decode cX9_part 44 = .ok (.aload_n 0, 1) := by decide +kernel
theorem dX9_part_45 : decode cX9_part 45 = .ok (.getfield 12, 3) := by decide +kernel
theorem dX9_part_48 : decode cX9_part 48 = .ok (.invokevirtual 127, 3) := by decide +kernel
theorem dX9_part_51 : decode cX9_part 51 = .ok (.ireturn, 1) := by decide +kernel
set_option maxRecDepth 100000 in
theorem B_X9_part_0 {d : Nat} {h : AbH} {K : Option AbV → AbH → Prop} {x0 : Nat} {x1 : Int} {x2 : Int} (hh : Vm d m_X9_pairOf [vI x1, vI x2] h (kI (fun n2 h1 => wpGR h1 (some x0) 8 0 (fun r3 => wpCV h1 r3 7 (fun b20 => Vm d m_X8_firstOf [vR (some b20), vI n2] h1 (kI (fun n5 h4 => ((n5 ≠ (-1) → wpGR h4 (some x0) 8 0 (fun r6 => wpCV h4 r6 7 (fun b19 => Vm d m_X8_copy [vR (some b19)] h4 (kR (fun r10 h9 => wpCV h9 r10 7 (fun b18 => Vm d m_X8_setMeeting [vR (some b18), vI n2, vI (-1), vI (-1)] h9 (kV (fun h11 => wpCV h11 (some x0) 8 (fun b17 => Vm d m_X9_act [vR (some b17), vR r10] h11 (kV (fun h12 => wpGR h12 (some x0) 8 0 (fun r13 => wpCV h12 r13 7 (fun b16 => Vm d m_X8_meetings [vR (some b16)] h12 (kI (fun n15 h14 => K (some (vI n15)) h14))))))))))))))) ∧ (¬ (n5 ≠ (-1)) → K (some (vI (-2))) h4))))))))) : Vx (d + 1) m_X9_part 5 66 0 [some (vR (some x0)), some (vI x1), some (vI x2)] [] h K := by
  refine Vx.pad 2 [some (vR (some x0)), some (vI x1), some (vI x2), none, none] rfl ?_
  refine rr_iload_n dX9_part_0 rfl rfl ?_
  refine rr_iload_n dX9_part_1 rfl rfl ?_
  refine rr_callS (bc' := 5) (bs' := 66) (av := [vI x1, vI x2]) (st := []) mf_X9_pairOf dX9_part_2 rfl q_481 q_381 rfl (by decide) (Nat.le_refl _) (Nat.le_refl _) hh (rr_kI fun n2 h1 hh => ?_)
  refine rr_istore_n (ls' := [some (vR (some x0)), some (vI x1), some (vI x2), some (vI n2), none]) dX9_part_5 rfl (by decide) (fun _ z => by cases z) rfl ?_
  refine rr_aload_n dX9_part_6 rfl rfl ?_
  refine rr_getR cf_X9 (j := 0) (by decide) dX9_part_7 rfl q_170 hh (fun r3 hh => ?_)
  refine rr_iload_n dX9_part_10 rfl rfl ?_
  refine rr_callW (bc' := 5) (bs' := 66) (q := r3) (av := [vI n2]) (st := []) mf_X8_firstOf dX9_part_11 rfl q_494 q_495 q_496 ⟨_, _, rfl⟩ rfl (by decide) (Nat.le_refl _) (Nat.le_refl _) hh (rr_kI fun n5 h4 hh => ?_)
  refine rr_iconst dX9_part_14 rfl ⟨by decide, by decide⟩ ?_
  refine rr_icmp_ne (tgt := 21) dX9_part_15 rfl (by decide) (fun hc15 => ?_) (fun hc15 => ?_)
  · have hh := hh.1 hc15
    refine rr_aload_n dX9_part_21 rfl rfl ?_
    refine rr_getR cf_X9 (j := 0) (by decide) dX9_part_22 rfl q_170 hh (fun r6 hh => ?_)
    refine rr_callW (bc' := 0) (bs' := 0) (q := r6) (av := []) (st := []) mf_X8_copy dX9_part_25 rfl q_216 q_217 q_218 ⟨_, _, rfl⟩ rfl (by decide) (by decide) (by decide) hh (rr_kR fun r10 h9 hh => ?_)
    refine rr_astore (ls' := [some (vR (some x0)), some (vI x1), some (vI x2), some (vI n2), some (vR r10)]) dX9_part_28 rfl (by decide) (fun _ z => by cases z) rfl ?_
    refine rr_aload dX9_part_30 rfl rfl ?_
    refine rr_iload_n dX9_part_32 rfl rfl ?_
    refine rr_iconst dX9_part_33 rfl ⟨by decide, by decide⟩ ?_
    refine rr_iconst dX9_part_34 rfl ⟨by decide, by decide⟩ ?_
    refine rr_callW (bc' := 0) (bs' := 0) (q := r10) (av := [vI n2, vI (-1), vI (-1)]) (st := []) mf_X8_setMeeting dX9_part_35 rfl q_485 q_223 q_224 ⟨_, _, rfl⟩ rfl (by decide) (Nat.le_refl _) (Nat.le_refl _) hh (rr_kV fun h11 hh => ?_)
    refine rr_aload_n dX9_part_38 rfl rfl ?_
    refine rr_aload dX9_part_39 rfl rfl ?_
    refine rr_callW (bc' := 0) (bs' := 0) (q := (some x0)) (av := [vR r10]) (st := []) mf_X9_act dX9_part_41 rfl q_456 q_458 qs_13 ⟨_, _, rfl⟩ rfl (by decide) (Nat.le_refl _) (Nat.le_refl _) hh (rr_kV fun h12 hh => ?_)
    refine rr_aload_n dX9_part_44 rfl rfl ?_
    refine rr_getR cf_X9 (j := 0) (by decide) dX9_part_45 rfl q_170 hh (fun r13 hh => ?_)
    refine rr_callW (bc' := 0) (bs' := 0) (q := r13) (av := []) (st := []) mf_X8_meetings dX9_part_48 rfl q_486 q_487 q_488 ⟨_, _, rfl⟩ rfl (by decide) (Nat.le_refl _) (Nat.le_refl _) hh (rr_kI fun n15 h14 hh => ?_)
    exact rr_iret dX9_part_51 rfl hh
  · have hh := hh.2 hc15
    refine rr_bipush dX9_part_18 rfl ⟨by decide, by decide⟩ rfl ?_
    exact rr_iret dX9_part_20 rfl hh
theorem dX9_lend_0 : decode cX9_lend 0 = .ok (.aload_n 0, 1) := by decide +kernel
theorem dX9_lend_1 : decode cX9_lend 1 = .ok (.getfield 12, 3) := by decide +kernel
theorem dX9_lend_4 : decode cX9_lend 4 = .ok (.iload_n 1, 1) := by decide +kernel
theorem dX9_lend_5 : decode cX9_lend 5 = .ok (.invokevirtual 135, 3) := by decide +kernel
theorem dX9_lend_8 : decode cX9_lend 8 = .ok (.astore 5, 2) := by decide +kernel
theorem dX9_lend_10 : decode cX9_lend 10 = .ok (.aload 5, 2) := by decide +kernel
theorem dX9_lend_12 : decode cX9_lend 12 = .ok (.ifnull 12, 3) := by decide +kernel
theorem dX9_lend_15 : decode cX9_lend 15 = .ok (.iload_n 2, 1) := by decide +kernel
theorem dX9_lend_16 : decode cX9_lend 16 = .ok (.iload_n 3, 1) := by decide +kernel
theorem dX9_lend_17 : decode cX9_lend 17 = .ok (.invokestatic 116, 3) := by decide +kernel
theorem dX9_lend_20 : decode cX9_lend 20 = .ok (.iconst (-1), 1) := by decide +kernel
theorem dX9_lend_21 : decode cX9_lend 21 = .ok (.if_icmp .ne 6, 3) := by decide +kernel
theorem dX9_lend_24 : decode cX9_lend 24 = .ok (.bipush (-2), 2) := by decide +kernel
theorem dX9_lend_26 : decode cX9_lend 26 = .ok (.ireturn, 1) := by decide +kernel
theorem dX9_lend_27 : decode cX9_lend 27 = .ok (.iload 4, 2) := by decide +kernel
theorem dX9_lend_29 : decode cX9_lend 29 = .ok (.invokestatic 120, 3) := by decide +kernel
theorem dX9_lend_32 : decode cX9_lend 32 = .ok (.ifCond .ne 6, 3) := by decide +kernel
theorem dX9_lend_35 : decode cX9_lend 35 = .ok (.bipush (-3), 2) := by decide +kernel
theorem dX9_lend_37 : decode cX9_lend 37 = .ok (.ireturn, 1) := by decide +kernel
theorem dX9_lend_38 : decode cX9_lend 38 = .ok (.aload_n 0, 1) := by decide +kernel
theorem dX9_lend_39 : decode cX9_lend 39 = .ok (.getfield 12, 3) := by decide +kernel
theorem dX9_lend_42 : decode cX9_lend 42 = .ok (.getfield 139, 3) := by decide +kernel
theorem dX9_lend_45 : decode cX9_lend 45 = .ok (.bipush 12, 2) := by decide +kernel
theorem dX9_lend_47 : decode cX9_lend 47 = .ok (.if_icmp .lt 6, 3) := by decide +kernel
theorem dX9_lend_50 : decode cX9_lend 50 = .ok (.bipush (-5), 2) := by decide +kernel
theorem dX9_lend_52 : decode cX9_lend 52 = .ok (.ireturn, 1) := by decide +kernel
theorem dX9_lend_53 : decode cX9_lend 53 = .ok (.aload_n 0, 1) := by decide +kernel
theorem dX9_lend_54 : decode cX9_lend 54 = .ok (.getfield 12, 3) := by decide +kernel
theorem dX9_lend_57 : decode cX9_lend 57 = .ok (.invokevirtual 70, 3) := by decide +kernel
theorem dX9_lend_60 : decode cX9_lend 60 = .ok (.astore 6, 2) := by decide +kernel
theorem dX9_lend_62 : decode cX9_lend 62 = .ok (.aload 6, 2) := by decide +kernel
theorem dX9_lend_64 : decode cX9_lend 64 = .ok (.new 142, 3) := by decide +kernel
theorem dX9_lend_67 : decode cX9_lend 67 = .ok (.dup, 1) := by decide +kernel
theorem dX9_lend_68 : decode cX9_lend 68 = .ok (.iload_n 2, 1) := by decide +kernel
theorem dX9_lend_69 : decode cX9_lend 69 = .ok (.iload_n 3, 1) := by decide +kernel
theorem dX9_lend_70 : decode cX9_lend 70 = .ok (.aload 5, 2) := by decide +kernel
theorem dX9_lend_72 : decode cX9_lend 72 = .ok (.getfield 144, 3) := by decide +kernel
theorem dX9_lend_75 : decode cX9_lend 75 = .ok (.aload_n 0, 1) := by decide +kernel
theorem dX9_lend_76 : decode cX9_lend 76 = .ok (.getfield 12, 3) := by decide +kernel
theorem dX9_lend_79 : decode cX9_lend 79 = .ok (.aload 5, 2) := by decide +kernel
theorem dX9_lend_81 : decode cX9_lend 81 = .ok (.getfield 144, 3) := by decide +kernel
theorem dX9_lend_84 : decode cX9_lend 84 = .ok (.iload_n 2, 1) := by decide +kernel
theorem dX9_lend_85 : decode cX9_lend 85 = .ok (.iload_n 3, 1) := by decide +kernel
theorem dX9_lend_86 : decode cX9_lend 86 = .ok (.iload 4, 2) := by decide +kernel
theorem dX9_lend_88 : decode cX9_lend 88 = .ok (.invokevirtual 148, 3) := by decide +kernel
theorem dX9_lend_91 : decode cX9_lend 91 = .ok (.invokespecial 152, 3) := by decide +kernel
theorem dX9_lend_94 : decode cX9_lend 94 = .ok (.invokevirtual 155, 3) := by decide +kernel
theorem dX9_lend_97 : decode cX9_lend 97 = .ok (.aload_n 0, 1) := by decide +kernel
theorem dX9_lend_98 : decode cX9_lend 98 = .ok (.aload 6, 2) := by decide +kernel
theorem dX9_lend_100 : decode cX9_lend 100 = .ok (.invokevirtual 105, 3) := by decide +kernel
theorem dX9_lend_103 : decode cX9_lend 103 = .ok (.aload_n 0, 1) := by decide +kernel
theorem dX9_lend_104 : decode cX9_lend 104 = .ok (.getfield 12, 3) := by decide +kernel
theorem dX9_lend_107 : decode cX9_lend 107 = .ok (.getfield 139, 3) := by decide +kernel
theorem dX9_lend_110 : decode cX9_lend 110 = .ok (.ireturn, 1) := by decide +kernel
set_option maxRecDepth 100000 in
theorem B_X9_lend_0 {d : Nat} {h : AbH} {K : Option AbV → AbH → Prop} {x0 : Nat} {x1 : Int} {x2 : Int} {x3 : Int} {x4 : Int} (hh : wpGR h (some x0) 8 0 (fun r1 => wpCV h r1 7 (fun b33 => Vm d m_X8_loanAt [vR (some b33), vI x1] h (kR (fun r3 h2 => ((r3 = none → K (some (vI (-2))) h2) ∧ (¬ (r3 = none) → Vm d m_X9_pairOf [vI x2, vI x3] h2 (kI (fun n5 h4 => ((n5 ≠ (-1) → Vm d m_X9_isDate [vI x4] h4 (kI (fun n7 h6 => ((n7 ≠ 0 → wpGR h6 (some x0) 8 0 (fun r8 => wpGI h6 r8 7 5 (fun n9 => ((n9 < 12 → wpGR h6 (some x0) 8 0 (fun r10 => wpCV h6 r10 7 (fun b32 => Vm d m_X8_copy [vR (some b32)] h6 (kR (fun r14 h13 => ∀ q15 : Nat, ab_new h13 q15 → ∀ h16 : AbH, h16 = hsO h13 q15 (2, [vI 0, vI 0, vL 0, vL 0]) → wpGL h16 r3 2 2 (fun n17 => wpGR h16 (some x0) 8 0 (fun r18 => wpGL h16 r3 2 2 (fun n19 => wpCV h16 r18 7 (fun b29 => Vm d m_X8_borrowed [vR (some b29), vL n19, vI x2, vI x3, vI x4] h16 (kL (fun n21 h20 => Vm d m_X3_init [vR (some q15), vI x2, vI x3, vL n17, vL n21] h20 (kV (fun h22 => wpCV h22 r14 7 (fun b28 => Vm d m_X8_addLoan [vR (some b28), vR (some q15)] h22 (kV (fun h23 => wpCV h23 (some x0) 8 (fun b27 => Vm d m_X9_act [vR (some b27), vR r14] h23 (kV (fun h24 => wpGR h24 (some x0) 8 0 (fun r25 => wpGI h24 r25 7 5 (fun n26 => K (some (vI n26)) h24))))))))))))))))))))) ∧ (¬ (n9 < 12) → K (some (vI (-5))) h6))))) ∧ (¬ (n7 ≠ 0) → K (some (vI (-3))) h6))))) ∧ (¬ (n5 ≠ (-1)) → K (some (vI (-2))) h4))))))))))) : Vx (d + 1) m_X9_lend 6 70 0 [some (vR (some x0)), some (vI x1), some (vI x2), some (vI x3), some (vI x4)] [] h K := by
  refine Vx.pad 2 [some (vR (some x0)), some (vI x1), some (vI x2), some (vI x3), some (vI x4), none, none] rfl ?_
  refine rr_aload_n dX9_lend_0 rfl rfl ?_
  refine rr_getR cf_X9 (j := 0) (by decide) dX9_lend_1 rfl q_170 hh (fun r1 hh => ?_)
  refine rr_iload_n dX9_lend_4 rfl rfl ?_
  refine rr_callW (bc' := 6) (bs' := 70) (q := r1) (av := [vI x1]) (st := []) mf_X8_loanAt dX9_lend_5 rfl q_502 q_503 q_504 ⟨_, _, rfl⟩ rfl (by decide) (Nat.le_refl _) (Nat.le_refl _) hh (rr_kR fun r3 h2 hh => ?_)
  refine rr_astore (ls' := [some (vR (some x0)), some (vI x1), some (vI x2), some (vI x3), some (vI x4), some (vR r3), none]) dX9_lend_8 rfl (by decide) (fun _ z => by cases z) rfl ?_
  refine rr_aload dX9_lend_10 rfl rfl ?_
  refine rr_ifnull (tgt := 24) dX9_lend_12 rfl (by decide) (fun hc12 => ?_) (fun hc12 => ?_)
  · have hh := hh.1 hc12
    refine rr_bipush dX9_lend_24 rfl ⟨by decide, by decide⟩ rfl ?_
    exact rr_iret dX9_lend_26 rfl hh
  · have hh := hh.2 hc12
    refine rr_iload_n dX9_lend_15 rfl rfl ?_
    refine rr_iload_n dX9_lend_16 rfl rfl ?_
    refine rr_callS (bc' := 6) (bs' := 70) (av := [vI x2, vI x3]) (st := []) mf_X9_pairOf dX9_lend_17 rfl q_481 q_381 rfl (by decide) (Nat.le_refl _) (Nat.le_refl _) hh (rr_kI fun n5 h4 hh => ?_)
    refine rr_iconst dX9_lend_20 rfl ⟨by decide, by decide⟩ ?_
    refine rr_icmp_ne (tgt := 27) dX9_lend_21 rfl (by decide) (fun hc21 => ?_) (fun hc21 => ?_)
    · have hh := hh.1 hc21
      refine rr_iload dX9_lend_27 rfl rfl ?_
      refine rr_callS (bc' := 6) (bs' := 70) (av := [vI x4]) (st := []) mf_X9_isDate dX9_lend_29 rfl q_482 q_483 rfl (by decide) (Nat.le_refl _) (Nat.le_refl _) hh (rr_kI fun n7 h6 hh => ?_)
      refine rr_if_ne (tgt := 38) dX9_lend_32 rfl (by decide) (fun hc32 => ?_) (fun hc32 => ?_)
      · have hh := hh.1 hc32
        refine rr_aload_n dX9_lend_38 rfl rfl ?_
        refine rr_getR cf_X9 (j := 0) (by decide) dX9_lend_39 rfl q_170 hh (fun r8 hh => ?_)
        refine rr_getI cf_X8 (j := 5) (by decide) dX9_lend_42 rfl q_44 hh (fun n9 hh => ?_)
        refine rr_bipush dX9_lend_45 rfl ⟨by decide, by decide⟩ rfl ?_
        refine rr_icmp_lt (tgt := 53) dX9_lend_47 rfl (by decide) (fun hc47 => ?_) (fun hc47 => ?_)
        · have hh := hh.1 hc47
          refine rr_aload_n dX9_lend_53 rfl rfl ?_
          refine rr_getR cf_X9 (j := 0) (by decide) dX9_lend_54 rfl q_170 hh (fun r10 hh => ?_)
          refine rr_callW (bc' := 1) (bs' := 4) (q := r10) (av := []) (st := []) mf_X8_copy dX9_lend_57 rfl q_216 q_217 q_218 ⟨_, _, rfl⟩ rfl (by decide) (by decide) (by decide) hh (rr_kR fun r14 h13 hh => ?_)
          refine rr_astore (ls' := [some (vR (some x0)), some (vI x1), some (vI x2), some (vI x3), some (vI x4), some (vR r3), some (vR r14)]) dX9_lend_60 rfl (by decide) (fun _ z => by cases z) rfl ?_
          refine rr_aload dX9_lend_62 rfl rfl ?_
          refine rr_new (bc' := 0) (bs' := 0) cf_X3 (fs := [vI 0, vI 0, vL 0, vL 0]) dX9_lend_64 rfl q_506 q_401 q_16 (fun j hj => by rcases (show j = 0 ∨ j = 1 ∨ j = 2 ∨ j = 3 by omega) with rfl | rfl | rfl | rfl <;> rfl) (by intro v hv; simp only [List.mem_cons, List.not_mem_nil, or_false] at hv; rcases hv with rfl | rfl | rfl | rfl <;> first | trivial | exact ⟨by decide, by decide⟩) (by decide) (by decide) (fun q15 hz => ?_)
          have hh := hh q15 hz _ rfl
          generalize hsO h13 q15 (2, [vI 0, vI 0, vL 0, vL 0]) = h16 at hh ⊢
          refine rr_dup dX9_lend_67 rfl rfl ?_
          refine rr_iload_n dX9_lend_68 rfl rfl ?_
          refine rr_iload_n dX9_lend_69 rfl rfl ?_
          refine rr_aload dX9_lend_70 rfl rfl ?_
          refine rr_getL cf_X3 (j := 2) (by decide) dX9_lend_72 rfl q_415 hh (fun n17 hh => ?_)
          refine rr_aload_n dX9_lend_75 rfl rfl ?_
          refine rr_getR cf_X9 (j := 0) (by decide) dX9_lend_76 rfl q_170 hh (fun r18 hh => ?_)
          refine rr_aload dX9_lend_79 rfl rfl ?_
          refine rr_getL cf_X3 (j := 2) (by decide) dX9_lend_81 rfl q_415 hh (fun n19 hh => ?_)
          refine rr_iload_n dX9_lend_84 rfl rfl ?_
          refine rr_iload_n dX9_lend_85 rfl rfl ?_
          refine rr_iload dX9_lend_86 rfl rfl ?_
          refine rr_callW (bc' := 0) (bs' := 0) (q := r18) (av := [vL n19, vI x2, vI x3, vI x4]) (st := [vL n17, vI x3, vI x2, vR (some q15), vR (some q15), vR r14]) mf_X8_borrowed dX9_lend_88 rfl q_507 q_508 q_509 ⟨_, _, rfl⟩ rfl (cs_le _ (Nat.le_of_ble_eq_true rfl)) (Nat.le_refl _) (Nat.le_refl _) hh (rr_kL fun n21 h20 hh => ?_)
          refine rr_callI (bc' := 0) (bs' := 0) (b := q15) (av := [vI x2, vI x3, vL n17, vL n21]) (st := [vR (some q15), vR r14]) mf_X3_init rfl rfl dX9_lend_91 rfl q_524 q_403 rfl (cs_le _ (Nat.le_of_ble_eq_true rfl)) (Nat.le_refl _) (Nat.le_refl _) hh (rr_kV fun h22 hh => ?_)
          refine rr_callW (bc' := 0) (bs' := 0) (q := r14) (av := [vR (some q15)]) (st := []) mf_X8_addLoan dX9_lend_94 rfl q_525 q_429 q_430 ⟨_, _, rfl⟩ rfl (by decide) (Nat.le_refl _) (Nat.le_refl _) hh (rr_kV fun h23 hh => ?_)
          refine rr_aload_n dX9_lend_97 rfl rfl ?_
          refine rr_aload dX9_lend_98 rfl rfl ?_
          refine rr_callW (bc' := 0) (bs' := 0) (q := (some x0)) (av := [vR r14]) (st := []) mf_X9_act dX9_lend_100 rfl q_456 q_458 qs_13 ⟨_, _, rfl⟩ rfl (by decide) (Nat.le_refl _) (Nat.le_refl _) hh (rr_kV fun h24 hh => ?_)
          refine rr_aload_n dX9_lend_103 rfl rfl ?_
          refine rr_getR cf_X9 (j := 0) (by decide) dX9_lend_104 rfl q_170 hh (fun r25 hh => ?_)
          refine rr_getI cf_X8 (j := 5) (by decide) dX9_lend_107 rfl q_44 hh (fun n26 hh => ?_)
          exact rr_iret dX9_lend_110 rfl hh
        · have hh := hh.2 hc47
          refine rr_bipush dX9_lend_50 rfl ⟨by decide, by decide⟩ rfl ?_
          exact rr_iret dX9_lend_52 rfl hh
      · have hh := hh.2 hc32
        refine rr_bipush dX9_lend_35 rfl ⟨by decide, by decide⟩ rfl ?_
        exact rr_iret dX9_lend_37 rfl hh
    · have hh := hh.2 hc21
      refine rr_bipush dX9_lend_24 rfl ⟨by decide, by decide⟩ rfl ?_
      exact rr_iret dX9_lend_26 rfl hh
theorem dX9_drop_0 : decode cX9_drop 0 = .ok (.aload_n 0, 1) := by decide +kernel
theorem dX9_drop_1 : decode cX9_drop 1 = .ok (.getfield 12, 3) := by decide +kernel
theorem dX9_drop_4 : decode cX9_drop 4 = .ok (.iload_n 1, 1) := by decide +kernel
theorem dX9_drop_5 : decode cX9_drop 5 = .ok (.invokevirtual 135, 3) := by decide +kernel
theorem dX9_drop_8 : decode cX9_drop 8 = .ok (.ifnonnull 6, 3) := by decide +kernel
theorem dX9_drop_11 : decode cX9_drop 11 = .ok (.bipush (-2), 2) := by decide +kernel
theorem dX9_drop_13 : decode cX9_drop 13 = .ok (.ireturn, 1) := by decide +kernel
theorem dX9_drop_14 : decode cX9_drop 14 = .ok (.aload_n 0, 1) := by decide +kernel
theorem dX9_drop_15 : decode cX9_drop 15 = .ok (.getfield 12, 3) := by decide +kernel
theorem dX9_drop_18 : decode cX9_drop 18 = .ok (.invokevirtual 70, 3) := by decide +kernel
theorem dX9_drop_21 : decode cX9_drop 21 = .ok (.astore_n 2, 1) := by decide +kernel
theorem dX9_drop_22 : decode cX9_drop 22 = .ok (.aload_n 2, 1) := by decide +kernel
theorem dX9_drop_23 : decode cX9_drop 23 = .ok (.iload_n 1, 1) := by decide +kernel
theorem dX9_drop_24 : decode cX9_drop 24 = .ok (.invokevirtual 159, 3) := by decide +kernel
theorem dX9_drop_27 : decode cX9_drop 27 = .ok (.aload_n 0, 1) := by decide +kernel
theorem dX9_drop_28 : decode cX9_drop 28 = .ok (.aload_n 2, 1) := by decide +kernel
theorem dX9_drop_29 : decode cX9_drop 29 = .ok (.invokevirtual 105, 3) := by decide +kernel
theorem dX9_drop_32 : decode cX9_drop 32 = .ok (.aload_n 0, 1) := by decide +kernel
theorem dX9_drop_33 : decode cX9_drop 33 = .ok (.getfield 12, 3) := by decide +kernel
theorem dX9_drop_36 : decode cX9_drop 36 = .ok (.getfield 139, 3) := by decide +kernel
theorem dX9_drop_39 : decode cX9_drop 39 = .ok (.ireturn, 1) := by decide +kernel
set_option maxRecDepth 100000 in
theorem B_X9_drop_0 {d : Nat} {h : AbH} {K : Option AbV → AbH → Prop} {x0 : Nat} {x1 : Int} (hh : wpGR h (some x0) 8 0 (fun r1 => wpCV h r1 7 (fun b16 => Vm d m_X8_loanAt [vR (some b16), vI x1] h (kR (fun r3 h2 => ((r3 ≠ none → wpGR h2 (some x0) 8 0 (fun r4 => wpCV h2 r4 7 (fun b15 => Vm d m_X8_copy [vR (some b15)] h2 (kR (fun r8 h7 => wpCV h7 r8 7 (fun b14 => Vm d m_X8_removeLoan [vR (some b14), vI x1] h7 (kV (fun h9 => wpCV h9 (some x0) 8 (fun b13 => Vm d m_X9_act [vR (some b13), vR r8] h9 (kV (fun h10 => wpGR h10 (some x0) 8 0 (fun r11 => wpGI h10 r11 7 5 (fun n12 => K (some (vI n12)) h10))))))))))))) ∧ (¬ (r3 ≠ none) → K (some (vI (-2))) h2))))))) : Vx (d + 1) m_X9_drop 5 66 0 [some (vR (some x0)), some (vI x1)] [] h K := by
  refine Vx.pad 1 [some (vR (some x0)), some (vI x1), none] rfl ?_
  refine rr_aload_n dX9_drop_0 rfl rfl ?_
  refine rr_getR cf_X9 (j := 0) (by decide) dX9_drop_1 rfl q_170 hh (fun r1 hh => ?_)
  refine rr_iload_n dX9_drop_4 rfl rfl ?_
  refine rr_callW (bc' := 5) (bs' := 66) (q := r1) (av := [vI x1]) (st := []) mf_X8_loanAt dX9_drop_5 rfl q_502 q_503 q_504 ⟨_, _, rfl⟩ rfl (by decide) (Nat.le_refl _) (Nat.le_refl _) hh (rr_kR fun r3 h2 hh => ?_)
  refine rr_ifnonnull (tgt := 14) dX9_drop_8 rfl (by decide) (fun hc8 => ?_) (fun hc8 => ?_)
  · have hh := hh.1 hc8
    refine rr_aload_n dX9_drop_14 rfl rfl ?_
    refine rr_getR cf_X9 (j := 0) (by decide) dX9_drop_15 rfl q_170 hh (fun r4 hh => ?_)
    refine rr_callW (bc' := 0) (bs' := 0) (q := r4) (av := []) (st := []) mf_X8_copy dX9_drop_18 rfl q_216 q_217 q_218 ⟨_, _, rfl⟩ rfl (by decide) (by decide) (by decide) hh (rr_kR fun r8 h7 hh => ?_)
    refine rr_astore_n (ls' := [some (vR (some x0)), some (vI x1), some (vR r8)]) dX9_drop_21 rfl (by decide) (fun _ z => by cases z) rfl ?_
    refine rr_aload_n dX9_drop_22 rfl rfl ?_
    refine rr_iload_n dX9_drop_23 rfl rfl ?_
    refine rr_callW (bc' := 0) (bs' := 0) (q := r8) (av := [vI x1]) (st := []) mf_X8_removeLoan dX9_drop_24 rfl q_530 q_531 q_532 ⟨_, _, rfl⟩ rfl (by decide) (Nat.le_refl _) (Nat.le_refl _) hh (rr_kV fun h9 hh => ?_)
    refine rr_aload_n dX9_drop_27 rfl rfl ?_
    refine rr_aload_n dX9_drop_28 rfl rfl ?_
    refine rr_callW (bc' := 0) (bs' := 0) (q := (some x0)) (av := [vR r8]) (st := []) mf_X9_act dX9_drop_29 rfl q_456 q_458 qs_13 ⟨_, _, rfl⟩ rfl (by decide) (Nat.le_refl _) (Nat.le_refl _) hh (rr_kV fun h10 hh => ?_)
    refine rr_aload_n dX9_drop_32 rfl rfl ?_
    refine rr_getR cf_X9 (j := 0) (by decide) dX9_drop_33 rfl q_170 hh (fun r11 hh => ?_)
    refine rr_getI cf_X8 (j := 5) (by decide) dX9_drop_36 rfl q_44 hh (fun n12 hh => ?_)
    exact rr_iret dX9_drop_39 rfl hh
  · have hh := hh.2 hc8
    refine rr_bipush dX9_drop_11 rfl ⟨by decide, by decide⟩ rfl ?_
    exact rr_iret dX9_drop_13 rfl hh
theorem dX9_undo_0 : decode cX9_undo 0 = .ok (.aload_n 0, 1) := by decide +kernel
theorem dX9_undo_1 : decode cX9_undo 1 = .ok (.getfield 19, 3) := by decide +kernel
theorem dX9_undo_4 : decode cX9_undo 4 = .ok (.invokevirtual 162, 3) := by decide +kernel
theorem dX9_undo_7 : decode cX9_undo 7 = .ok (.astore_n 1, 1) := by decide +kernel
theorem dX9_undo_8 : decode cX9_undo 8 = .ok (.aload_n 1, 1) := by decide +kernel
theorem dX9_undo_9 : decode cX9_undo 9 = .ok (.ifnonnull 6, 3) := by decide +kernel
theorem dX9_undo_12 : decode cX9_undo 12 = .ok (.bipush (-4), 2) := by decide +kernel
theorem dX9_undo_14 : decode cX9_undo 14 = .ok (.ireturn, 1) := by decide +kernel
theorem dX9_undo_15 : decode cX9_undo 15 = .ok (.aload_n 0, 1) := by decide +kernel
theorem dX9_undo_16 : decode cX9_undo 16 = .ok (.getfield 19, 3) := by decide +kernel
theorem dX9_undo_19 : decode cX9_undo 19 = .ok (.invokevirtual 165, 3) := by decide +kernel
theorem dX9_undo_22 : decode cX9_undo 22 = .ok (.aload_n 0, 1) := by decide +kernel
theorem dX9_undo_23 : decode cX9_undo 23 = .ok (.aload_n 1, 1) := by decide +kernel
theorem dX9_undo_24 : decode cX9_undo 24 = .ok (.putfield 12, 3) := by decide +kernel
theorem dX9_undo_27 : decode cX9_undo 27 = .ok (.aload_n 0, 1) := by decide +kernel
theorem dX9_undo_28 : decode cX9_undo 28 = .ok (.getfield 19, 3) := by decide +kernel
theorem dX9_undo_31 : decode cX9_undo 31 = .ok (.getfield 168, 3) := by decide +kernel
theorem dX9_undo_34 : decode cX9_undo 34 = .ok (.ireturn, 1) := by decide +kernel
set_option maxRecDepth 100000 in
theorem B_X9_undo_0 {d : Nat} {h : AbH} {K : Option AbV → AbH → Prop} {x0 : Nat} (hh : wpGR h (some x0) 8 1 (fun r1 => wpCV h r1 3 (fun b10 => Vm d m_X4_latest [vR (some b10)] h (kR (fun r3 h2 => ((r3 ≠ none → wpGR h2 (some x0) 8 1 (fun r4 => wpCV h2 r4 3 (fun b9 => Vm d m_X4_forgetLatest [vR (some b9)] h2 (kV (fun h5 => wpP h5 (some x0) 8 0 (vR r3) (fun h6 => wpGR h6 (some x0) 8 1 (fun r7 => wpGI h6 r7 3 1 (fun n8 => K (some (vI n8)) h6)))))))) ∧ (¬ (r3 ≠ none) → K (some (vI (-4))) h2))))))) : Vx (d + 1) m_X9_undo 0 0 0 [some (vR (some x0))] [] h K := by
  refine Vx.pad 1 [some (vR (some x0)), none] rfl ?_
  refine rr_aload_n dX9_undo_0 rfl rfl ?_
  refine rr_getR cf_X9 (j := 1) (by decide) dX9_undo_1 rfl q_171 hh (fun r1 hh => ?_)
  refine rr_callW (bc' := 0) (bs' := 0) (q := r1) (av := []) (st := []) mf_X4_latest dX9_undo_4 rfl q_539 q_540 q_541 ⟨_, _, rfl⟩ rfl (by decide) (Nat.le_refl _) (Nat.le_refl _) hh (rr_kR fun r3 h2 hh => ?_)
  refine rr_astore_n (ls' := [some (vR (some x0)), some (vR r3)]) dX9_undo_7 rfl (by decide) (fun _ z => by cases z) rfl ?_
  refine rr_aload_n dX9_undo_8 rfl rfl ?_
  refine rr_ifnonnull (tgt := 15) dX9_undo_9 rfl (by decide) (fun hc9 => ?_) (fun hc9 => ?_)
  · have hh := hh.1 hc9
    refine rr_aload_n dX9_undo_15 rfl rfl ?_
    refine rr_getR cf_X9 (j := 1) (by decide) dX9_undo_16 rfl q_171 hh (fun r4 hh => ?_)
    refine rr_callW (bc' := 0) (bs' := 0) (q := r4) (av := []) (st := []) mf_X4_forgetLatest dX9_undo_19 rfl q_544 q_545 q_546 ⟨_, _, rfl⟩ rfl (by decide) (Nat.le_refl _) (Nat.le_refl _) hh (rr_kV fun h5 hh => ?_)
    refine rr_aload_n dX9_undo_22 rfl rfl ?_
    refine rr_aload_n dX9_undo_23 rfl rfl ?_
    refine rr_put cf_X9 (j := 0) (by decide) dX9_undo_24 rfl q_170 rfl (fty := .object "LoanLayers$World") (by decide +kernel) (by first | rfl | exact rn_r _ _ (by first | exact Or.inl ⟨_, rfl⟩ | exact Or.inr ⟨_, rfl⟩)) (by first | rfl | exact rf_r _ _ (by first | exact Or.inl ⟨_, rfl⟩ | exact Or.inr ⟨_, rfl⟩)) hh (fun h6 hh => ?_)
    refine rr_aload_n dX9_undo_27 rfl rfl ?_
    refine rr_getR cf_X9 (j := 1) (by decide) dX9_undo_28 rfl q_171 hh (fun r7 hh => ?_)
    refine rr_getI cf_X4 (j := 1) (by decide) dX9_undo_31 rfl q_69 hh (fun n8 hh => ?_)
    exact rr_iret dX9_undo_34 rfl hh
  · have hh := hh.2 hc9
    refine rr_bipush dX9_undo_12 rfl ⟨by decide, by decide⟩ rfl ?_
    exact rr_iret dX9_undo_14 rfl hh
theorem dX9_keep_0 : decode cX9_keep 0 = .ok (.iload_n 1, 1) := by decide +kernel
theorem dX9_keep_1 : decode cX9_keep 1 = .ok (.iconst 0, 1) := by decide +kernel
theorem dX9_keep_2 : decode cX9_keep 2 = .ok (.iconst 1, 1) := by decide +kernel
theorem dX9_keep_3 : decode cX9_keep 3 = .ok (.invokestatic 55, 3) := by decide +kernel
theorem dX9_keep_6 : decode cX9_keep 6 = .ok (.ifCond .ne 6, 3) := by decide +kernel
theorem dX9_keep_9 : decode cX9_keep 9 = .ok (.bipush (-3), 2) := by decide +kernel
theorem dX9_keep_11 : decode cX9_keep 11 = .ok (.ireturn, 1) := by decide +kernel
theorem dX9_keep_12 : decode cX9_keep 12 = .ok (.aload_n 0, 1) := by decide +kernel
theorem dX9_keep_13 : decode cX9_keep 13 = .ok (.getfield 23, 3) := by decide +kernel
theorem dX9_keep_16 : decode cX9_keep 16 = .ok (.iload_n 1, 1) := by decide +kernel
theorem dX9_keep_17 : decode cX9_keep 17 = .ok (.aload_n 0, 1) := by decide +kernel
theorem dX9_keep_18 : decode cX9_keep 18 = .ok (.getfield 12, 3) := by decide +kernel
theorem dX9_keep_21 : decode cX9_keep 21 = .ok (.aastore, 1) := by decide +kernel
theorem dX9_keep_22 : decode cX9_keep 22 = .ok (.aload_n 0, 1) := by decide +kernel
theorem dX9_keep_23 : decode cX9_keep 23 = .ok (.getfield 12, 3) := by decide +kernel
theorem dX9_keep_26 : decode cX9_keep 26 = .ok (.getfield 93, 3) := by decide +kernel
theorem dX9_keep_29 : decode cX9_keep 29 = .ok (.ireturn, 1) := by decide +kernel
set_option maxRecDepth 100000 in
theorem B_X9_keep_0 {d : Nat} {h : AbH} {K : Option AbV → AbH → Prop} {x0 : Nat} {x1 : Int} (hh : Vm d m_X9_within [vI x1, vI 0, vI 1] h (kI (fun n2 h1 => ((n2 ≠ 0 → wpGR h1 (some x0) 8 2 (fun r3 => wpGR h1 (some x0) 8 0 (fun r4 => wpSR h1 r3 x1 r4 (fun h5 => wpGR h5 (some x0) 8 0 (fun r6 => wpGI h5 r6 7 4 (fun n7 => K (some (vI n7)) h5)))))) ∧ (¬ (n2 ≠ 0) → K (some (vI (-3))) h1))))) : Vx (d + 1) m_X9_keep 0 0 0 [some (vR (some x0)), some (vI x1)] [] h K := by
  refine rr_iload_n dX9_keep_0 rfl rfl ?_
  refine rr_iconst dX9_keep_1 rfl ⟨by decide, by decide⟩ ?_
  refine rr_iconst dX9_keep_2 rfl ⟨by decide, by decide⟩ ?_
  refine rr_callS (bc' := 0) (bs' := 0) (av := [vI x1, vI 0, vI 1]) (st := []) mf_X9_within dX9_keep_3 rfl q_196 q_197 rfl (by decide) (Nat.le_refl _) (Nat.le_refl _) hh (rr_kI fun n2 h1 hh => ?_)
  refine rr_if_ne (tgt := 12) dX9_keep_6 rfl (by decide) (fun hc6 => ?_) (fun hc6 => ?_)
  · have hh := hh.1 hc6
    refine rr_aload_n dX9_keep_12 rfl rfl ?_
    refine rr_getR cf_X9 (j := 2) (by decide) dX9_keep_13 rfl q_172 hh (fun r3 hh => ?_)
    refine rr_iload_n dX9_keep_16 rfl rfl ?_
    refine rr_aload_n dX9_keep_17 rfl rfl ?_
    refine rr_getR cf_X9 (j := 0) (by decide) dX9_keep_18 rfl q_170 hh (fun r4 hh => ?_)
    refine rr_aast dX9_keep_21 rfl hh (fun h5 hh => ?_)
    refine rr_aload_n dX9_keep_22 rfl rfl ?_
    refine rr_getR cf_X9 (j := 0) (by decide) dX9_keep_23 rfl q_170 hh (fun r6 hh => ?_)
    refine rr_getI cf_X8 (j := 4) (by decide) dX9_keep_26 rfl q_41 hh (fun n7 hh => ?_)
    exact rr_iret dX9_keep_29 rfl hh
  · have hh := hh.2 hc6
    refine rr_bipush dX9_keep_9 rfl ⟨by decide, by decide⟩ rfl ?_
    exact rr_iret dX9_keep_11 rfl hh
theorem dX9_back_0 : decode cX9_back 0 = .ok (.iload_n 1, 1) := by decide +kernel
theorem dX9_back_1 : decode cX9_back 1 = .ok (.iconst 0, 1) := by decide +kernel
theorem dX9_back_2 : decode cX9_back 2 = .ok (.iconst 1, 1) := by decide +kernel
theorem dX9_back_3 : decode cX9_back 3 = .ok (.invokestatic 55, 3) := by decide +kernel
theorem dX9_back_6 : decode cX9_back 6 = .ok (.ifCond .ne 6, 3) := by decide +kernel
theorem dX9_back_9 : decode cX9_back 9 = .ok (.bipush (-3), 2) := by decide +kernel
theorem dX9_back_11 : decode cX9_back 11 = .ok (.ireturn, 1) := by decide +kernel
theorem dX9_back_12 : decode cX9_back 12 = .ok (.aload_n 0, 1) := by decide +kernel
theorem dX9_back_13 : decode cX9_back 13 = .ok (.getfield 23, 3) := by decide +kernel
theorem dX9_back_16 : decode cX9_back 16 = .ok (.iload_n 1, 1) := by decide +kernel
theorem dX9_back_17 : decode cX9_back 17 = .ok (.aaload, 1) := by decide +kernel
theorem dX9_back_18 : decode cX9_back 18 = .ok (.astore_n 2, 1) := by decide +kernel
theorem dX9_back_19 : decode cX9_back 19 = .ok (.aload_n 2, 1) := by decide +kernel
theorem dX9_back_20 : decode cX9_back 20 = .ok (.ifnonnull 6, 3) := by decide +kernel
theorem dX9_back_23 : decode cX9_back 23 = .ok (.bipush (-4), 2) := by decide +kernel
theorem dX9_back_25 : decode cX9_back 25 = .ok (.ireturn, 1) := by decide +kernel
theorem dX9_back_26 : decode cX9_back 26 = .ok (.aload_n 0, 1) := by decide +kernel
theorem dX9_back_27 : decode cX9_back 27 = .ok (.aload_n 2, 1) := by decide +kernel
theorem dX9_back_28 : decode cX9_back 28 = .ok (.putfield 12, 3) := by decide +kernel
theorem dX9_back_31 : decode cX9_back 31 = .ok (.aload_n 0, 1) := by decide +kernel
theorem dX9_back_32 : decode cX9_back 32 = .ok (.getfield 19, 3) := by decide +kernel
theorem dX9_back_35 : decode cX9_back 35 = .ok (.invokevirtual 78, 3) := by decide +kernel
theorem dX9_back_38 : decode cX9_back 38 = .ok (.aload_n 0, 1) := by decide +kernel
theorem dX9_back_39 : decode cX9_back 39 = .ok (.getfield 12, 3) := by decide +kernel
theorem dX9_back_42 : decode cX9_back 42 = .ok (.getfield 93, 3) := by decide +kernel
theorem dX9_back_45 : decode cX9_back 45 = .ok (.ireturn, 1) := by decide +kernel
set_option maxRecDepth 100000 in
theorem B_X9_back_0 {d : Nat} {h : AbH} {K : Option AbV → AbH → Prop} {x0 : Nat} {x1 : Int} (hh : Vm d m_X9_within [vI x1, vI 0, vI 1] h (kI (fun n2 h1 => ((n2 ≠ 0 → wpGR h1 (some x0) 8 2 (fun r3 => wpLR h1 r3 x1 (fun r4 => ((r4 ≠ none → wpP h1 (some x0) 8 0 (vR r4) (fun h5 => wpGR h5 (some x0) 8 1 (fun r6 => wpCV h5 r6 3 (fun b10 => Vm d m_X4_clear [vR (some b10)] h5 (kV (fun h7 => wpGR h7 (some x0) 8 0 (fun r8 => wpGI h7 r8 7 4 (fun n9 => K (some (vI n9)) h7)))))))) ∧ (¬ (r4 ≠ none) → K (some (vI (-4))) h1))))) ∧ (¬ (n2 ≠ 0) → K (some (vI (-3))) h1))))) : Vx (d + 1) m_X9_back 0 0 0 [some (vR (some x0)), some (vI x1)] [] h K := by
  refine Vx.pad 1 [some (vR (some x0)), some (vI x1), none] rfl ?_
  refine rr_iload_n dX9_back_0 rfl rfl ?_
  refine rr_iconst dX9_back_1 rfl ⟨by decide, by decide⟩ ?_
  refine rr_iconst dX9_back_2 rfl ⟨by decide, by decide⟩ ?_
  refine rr_callS (bc' := 0) (bs' := 0) (av := [vI x1, vI 0, vI 1]) (st := []) mf_X9_within dX9_back_3 rfl q_196 q_197 rfl (by decide) (Nat.le_refl _) (Nat.le_refl _) hh (rr_kI fun n2 h1 hh => ?_)
  refine rr_if_ne (tgt := 12) dX9_back_6 rfl (by decide) (fun hc6 => ?_) (fun hc6 => ?_)
  · have hh := hh.1 hc6
    refine rr_aload_n dX9_back_12 rfl rfl ?_
    refine rr_getR cf_X9 (j := 2) (by decide) dX9_back_13 rfl q_172 hh (fun r3 hh => ?_)
    refine rr_iload_n dX9_back_16 rfl rfl ?_
    refine rr_aald dX9_back_17 rfl hh (fun r4 hh => ?_)
    refine rr_astore_n (ls' := [some (vR (some x0)), some (vI x1), some (vR r4)]) dX9_back_18 rfl (by decide) (fun _ z => by cases z) rfl ?_
    refine rr_aload_n dX9_back_19 rfl rfl ?_
    refine rr_ifnonnull (tgt := 26) dX9_back_20 rfl (by decide) (fun hc20 => ?_) (fun hc20 => ?_)
    · have hh := hh.1 hc20
      refine rr_aload_n dX9_back_26 rfl rfl ?_
      refine rr_aload_n dX9_back_27 rfl rfl ?_
      refine rr_put cf_X9 (j := 0) (by decide) dX9_back_28 rfl q_170 rfl (fty := .object "LoanLayers$World") (by decide +kernel) (by first | rfl | exact rn_r _ _ (by first | exact Or.inl ⟨_, rfl⟩ | exact Or.inr ⟨_, rfl⟩)) (by first | rfl | exact rf_r _ _ (by first | exact Or.inl ⟨_, rfl⟩ | exact Or.inr ⟨_, rfl⟩)) hh (fun h5 hh => ?_)
      refine rr_aload_n dX9_back_31 rfl rfl ?_
      refine rr_getR cf_X9 (j := 1) (by decide) dX9_back_32 rfl q_171 hh (fun r6 hh => ?_)
      refine rr_callW (bc' := 0) (bs' := 0) (q := r6) (av := []) (st := []) mf_X4_clear dX9_back_35 rfl q_441 q_442 q_443 ⟨_, _, rfl⟩ rfl (by decide) (Nat.le_refl _) (Nat.le_refl _) hh (rr_kV fun h7 hh => ?_)
      refine rr_aload_n dX9_back_38 rfl rfl ?_
      refine rr_getR cf_X9 (j := 0) (by decide) dX9_back_39 rfl q_170 hh (fun r8 hh => ?_)
      refine rr_getI cf_X8 (j := 4) (by decide) dX9_back_42 rfl q_41 hh (fun n9 hh => ?_)
      exact rr_iret dX9_back_45 rfl hh
    · have hh := hh.2 hc20
      refine rr_bipush dX9_back_23 rfl ⟨by decide, by decide⟩ rfl ?_
      exact rr_iret dX9_back_25 rfl hh
  · have hh := hh.2 hc6
    refine rr_bipush dX9_back_9 rfl ⟨by decide, by decide⟩ rfl ?_
    exact rr_iret dX9_back_11 rfl hh
theorem dX9_act_0 : decode cX9_act 0 = .ok (.aload_n 0, 1) := by decide +kernel
theorem dX9_act_1 : decode cX9_act 1 = .ok (.getfield 19, 3) := by decide +kernel
theorem dX9_act_4 : decode cX9_act 4 = .ok (.aload_n 0, 1) := by decide +kernel
theorem dX9_act_5 : decode cX9_act 5 = .ok (.getfield 12, 3) := by decide +kernel
theorem dX9_act_8 : decode cX9_act 8 = .ok (.invokevirtual 171, 3) := by decide +kernel
theorem dX9_act_11 : decode cX9_act 11 = .ok (.aload_n 0, 1) := by decide +kernel
theorem dX9_act_12 : decode cX9_act 12 = .ok (.aload_n 1, 1) := by decide +kernel
theorem dX9_act_13 : decode cX9_act 13 = .ok (.putfield 12, 3) := by decide +kernel
theorem dX9_act_16 : decode cX9_act 16 = .ok (.return_, 1) := by decide +kernel
set_option maxRecDepth 100000 in
theorem B_X9_act_0 {d : Nat} {h : AbH} {K : Option AbV → AbH → Prop} {x0 : Nat} {x1 : Option Nat} (hh : wpGR h (some x0) 8 1 (fun r1 => wpGR h (some x0) 8 0 (fun r2 => wpCV h r1 3 (fun b5 => Vm d m_X4_add [vR (some b5), vR r2] h (kV (fun h3 => wpP h3 (some x0) 8 0 (vR x1) (fun h4 => K none h4))))))) : Vx (d + 1) m_X9_act 0 0 0 [some (vR (some x0)), some (vR x1)] [] h K := by
  refine rr_aload_n dX9_act_0 rfl rfl ?_
  refine rr_getR cf_X9 (j := 1) (by decide) dX9_act_1 rfl q_171 hh (fun r1 hh => ?_)
  refine rr_aload_n dX9_act_4 rfl rfl ?_
  refine rr_getR cf_X9 (j := 0) (by decide) dX9_act_5 rfl q_170 hh (fun r2 hh => ?_)
  refine rr_callW (bc' := 0) (bs' := 0) (q := r1) (av := [vR r2]) (st := []) mf_X4_add dX9_act_8 rfl q_460 q_461 q_462 ⟨_, _, rfl⟩ rfl (by decide) (Nat.le_refl _) (Nat.le_refl _) hh (rr_kV fun h3 hh => ?_)
  refine rr_aload_n dX9_act_11 rfl rfl ?_
  refine rr_aload_n dX9_act_12 rfl rfl ?_
  refine rr_put cf_X9 (j := 0) (by decide) dX9_act_13 rfl q_170 rfl (fty := .object "LoanLayers$World") (by decide +kernel) (by first | rfl | exact rn_r _ _ (by first | exact Or.inl ⟨_, rfl⟩ | exact Or.inr ⟨_, rfl⟩)) (by first | rfl | exact rf_r _ _ (by first | exact Or.inl ⟨_, rfl⟩ | exact Or.inr ⟨_, rfl⟩)) hh (fun h4 hh => ?_)
  exact rr_vret dX9_act_16 rfl hh
theorem dX9_told_0 : decode cX9_told 0 = .ok (.aload_n 0, 1) := by decide +kernel
theorem dX9_told_1 : decode cX9_told 1 = .ok (.getfield 12, 3) := by decide +kernel
theorem dX9_told_4 : decode cX9_told 4 = .ok (.iload_n 1, 1) := by decide +kernel
theorem dX9_told_5 : decode cX9_told 5 = .ok (.invokevirtual 109, 3) := by decide +kernel
theorem dX9_told_8 : decode cX9_told 8 = .ok (.astore_n 3, 1) := by decide +kernel
theorem dX9_told_9 : decode cX9_told 9 = .ok (.aload_n 3, 1) := by decide +kernel
theorem dX9_told_10 : decode cX9_told 10 = .ok (.ifnonnull 6, 3) := by decide +kernel
theorem dX9_told_13 : decode cX9_told 13 = .ok (.bipush (-2), 2) := by decide +kernel
theorem dX9_told_15 : decode cX9_told 15 = .ok (.ireturn, 1) := by decide +kernel
theorem dX9_told_16 : decode cX9_told 16 = .ok (.iload_n 2, 1) := by decide +kernel
theorem dX9_told_17 : decode cX9_told 17 = .ok (.tableswitch 69 0 5 #[39, 44, 49, 54, 59, 64], 39) := by decide +kernel
theorem dX9_told_56 : decode cX9_told 56 = .ok (.aload_n 3, 1) := by decide +kernel
theorem dX9_told_57 : decode cX9_told 57 = .ok (.getfield 174, 3) := by decide +kernel
theorem dX9_told_60 : decode cX9_told 60 = .ok (.ireturn, 1) := by decide +kernel
theorem dX9_told_61 : decode cX9_told 61 = .ok (.aload_n 3, 1) := by decide +kernel
theorem dX9_told_62 : decode cX9_told 62 = .ok (.getfield 177, 3) := by decide +kernel
theorem dX9_told_65 : decode cX9_told 65 = .ok (.ireturn, 1) := by decide +kernel
theorem dX9_told_66 : decode cX9_told 66 = .ok (.aload_n 3, 1) := by decide +kernel
theorem dX9_told_67 : decode cX9_told 67 = .ok (.getfield 180, 3) := by decide +kernel
theorem dX9_told_70 : decode cX9_told 70 = .ok (.ireturn, 1) := by decide +kernel
theorem dX9_told_71 : decode cX9_told 71 = .ok (.aload_n 3, 1) := by decide +kernel
theorem dX9_told_72 : decode cX9_told 72 = .ok (.getfield 183, 3) := by decide +kernel
theorem dX9_told_75 : decode cX9_told 75 = .ok (.ireturn, 1) := by decide +kernel
theorem dX9_told_76 : decode cX9_told 76 = .ok (.aload_n 3, 1) := by decide +kernel
theorem dX9_told_77 : decode cX9_told 77 = .ok (.getfield 186, 3) := by decide +kernel
theorem dX9_told_80 : decode cX9_told 80 = .ok (.ireturn, 1) := by decide +kernel
theorem dX9_told_81 : decode cX9_told 81 = .ok (.aload_n 3, 1) := by decide +kernel
theorem dX9_told_82 : decode cX9_told 82 = .ok (.getfield 189, 3) := by decide +kernel
theorem dX9_told_85 : decode cX9_told 85 = .ok (.ireturn, 1) := by decide +kernel
theorem dX9_told_86 : decode cX9_told 86 = .ok (.bipush (-3), 2) := by decide +kernel
theorem dX9_told_88 : decode cX9_told 88 = .ok (.ireturn, 1) := by decide +kernel
set_option maxRecDepth 100000 in
theorem B_X9_told_0 {d : Nat} {h : AbH} {K : Option AbV → AbH → Prop} {x0 : Nat} {x1 : Int} {x2 : Int} (hh : wpGR h (some x0) 8 0 (fun r1 => wpCV h r1 7 (fun b10 => Vm d m_X8_lawAt [vR (some b10), vI x1] h (kR (fun r3 h2 => ((r3 ≠ none → ((x2 = 0 → wpGI h2 r3 0 0 (fun n4 => K (some (vI n4)) h2)) ∧ (x2 = 1 → wpGI h2 r3 0 1 (fun n5 => K (some (vI n5)) h2)) ∧ (x2 = 2 → wpGI h2 r3 0 2 (fun n6 => K (some (vI n6)) h2)) ∧ (x2 = 3 → wpGI h2 r3 0 3 (fun n7 => K (some (vI n7)) h2)) ∧ (x2 = 4 → wpGI h2 r3 0 4 (fun n8 => K (some (vI n8)) h2)) ∧ (x2 = 5 → wpGI h2 r3 0 5 (fun n9 => K (some (vI n9)) h2)) ∧ ((x2 < 0 ∨ 5 < x2) → K (some (vI (-3))) h2))) ∧ (¬ (r3 ≠ none) → K (some (vI (-2))) h2))))))) : Vx (d + 1) m_X9_told 0 0 0 [some (vR (some x0)), some (vI x1), some (vI x2)] [] h K := by
  refine Vx.pad 1 [some (vR (some x0)), some (vI x1), some (vI x2), none] rfl ?_
  refine rr_aload_n dX9_told_0 rfl rfl ?_
  refine rr_getR cf_X9 (j := 0) (by decide) dX9_told_1 rfl q_170 hh (fun r1 hh => ?_)
  refine rr_iload_n dX9_told_4 rfl rfl ?_
  refine rr_callW (bc' := 0) (bs' := 0) (q := r1) (av := [vI x1]) (st := []) mf_X8_lawAt dX9_told_5 rfl q_468 q_469 q_470 ⟨_, _, rfl⟩ rfl (by decide) (Nat.le_refl _) (Nat.le_refl _) hh (rr_kR fun r3 h2 hh => ?_)
  refine rr_astore_n (ls' := [some (vR (some x0)), some (vI x1), some (vI x2), some (vR r3)]) dX9_told_8 rfl (by decide) (fun _ z => by cases z) rfl ?_
  refine rr_aload_n dX9_told_9 rfl rfl ?_
  refine rr_ifnonnull (tgt := 16) dX9_told_10 rfl (by decide) (fun hc10 => ?_) (fun hc10 => ?_)
  · have hh := hh.1 hc10
    refine rr_iload_n dX9_told_16 rfl rfl ?_
    by_cases hz17_0 : x2 = 0
    · have hh := hh.1 hz17_0
      refine rr_tableIn (pc' := 56) 0 dX9_told_17 (by rw [hz17_0]; rfl) (by decide) rfl (by decide) ?_
      refine rr_aload_n dX9_told_56 rfl rfl ?_
      refine rr_getI cf_X1 (j := 0) (by decide) dX9_told_57 rfl q_335 hh (fun n4 hh => ?_)
      exact rr_iret dX9_told_60 rfl hh
    by_cases hz17_1 : x2 = 1
    · have hh := hh.2.1 hz17_1
      refine rr_tableIn (pc' := 61) 1 dX9_told_17 (by rw [hz17_1]; rfl) (by decide) rfl (by decide) ?_
      refine rr_aload_n dX9_told_61 rfl rfl ?_
      refine rr_getI cf_X1 (j := 1) (by decide) dX9_told_62 rfl q_340 hh (fun n5 hh => ?_)
      exact rr_iret dX9_told_65 rfl hh
    by_cases hz17_2 : x2 = 2
    · have hh := hh.2.2.1 hz17_2
      refine rr_tableIn (pc' := 66) 2 dX9_told_17 (by rw [hz17_2]; rfl) (by decide) rfl (by decide) ?_
      refine rr_aload_n dX9_told_66 rfl rfl ?_
      refine rr_getI cf_X1 (j := 2) (by decide) dX9_told_67 rfl q_342 hh (fun n6 hh => ?_)
      exact rr_iret dX9_told_70 rfl hh
    by_cases hz17_3 : x2 = 3
    · have hh := hh.2.2.2.1 hz17_3
      refine rr_tableIn (pc' := 71) 3 dX9_told_17 (by rw [hz17_3]; rfl) (by decide) rfl (by decide) ?_
      refine rr_aload_n dX9_told_71 rfl rfl ?_
      refine rr_getI cf_X1 (j := 3) (by decide) dX9_told_72 rfl q_344 hh (fun n7 hh => ?_)
      exact rr_iret dX9_told_75 rfl hh
    by_cases hz17_4 : x2 = 4
    · have hh := hh.2.2.2.2.1 hz17_4
      refine rr_tableIn (pc' := 76) 4 dX9_told_17 (by rw [hz17_4]; rfl) (by decide) rfl (by decide) ?_
      refine rr_aload_n dX9_told_76 rfl rfl ?_
      refine rr_getI cf_X1 (j := 4) (by decide) dX9_told_77 rfl q_346 hh (fun n8 hh => ?_)
      exact rr_iret dX9_told_80 rfl hh
    by_cases hz17_5 : x2 = 5
    · have hh := hh.2.2.2.2.2.1 hz17_5
      refine rr_tableIn (pc' := 81) 5 dX9_told_17 (by rw [hz17_5]; rfl) (by decide) rfl (by decide) ?_
      refine rr_aload_n dX9_told_81 rfl rfl ?_
      refine rr_getI cf_X1 (j := 5) (by decide) dX9_told_82 rfl q_348 hh (fun n9 hh => ?_)
      exact rr_iret dX9_told_85 rfl hh
    have hz17_o : x2 < 0 ∨ 5 < x2 := by omega
    have hh := hh.2.2.2.2.2.2 hz17_o
    refine rr_tableOut (pc' := 86) dX9_told_17 hz17_o (by decide) ?_
    refine rr_bipush dX9_told_86 rfl ⟨by decide, by decide⟩ rfl ?_
    exact rr_iret dX9_told_88 rfl hh
  · have hh := hh.2 hc10
    refine rr_bipush dX9_told_13 rfl ⟨by decide, by decide⟩ rfl ?_
    exact rr_iret dX9_told_15 rfl hh
theorem dX9_meeting_0 : decode cX9_meeting 0 = .ok (.iload_n 1, 1) := by decide +kernel
theorem dX9_meeting_1 : decode cX9_meeting 1 = .ok (.iload_n 2, 1) := by decide +kernel
theorem dX9_meeting_2 : decode cX9_meeting 2 = .ok (.invokestatic 116, 3) := by decide +kernel
theorem dX9_meeting_5 : decode cX9_meeting 5 = .ok (.istore 4, 2) := by decide +kernel
theorem dX9_meeting_7 : decode cX9_meeting 7 = .ok (.aload_n 0, 1) := by decide +kernel
theorem dX9_meeting_8 : decode cX9_meeting 8 = .ok (.getfield 12, 3) := by decide +kernel
theorem dX9_meeting_11 : decode cX9_meeting 11 = .ok (.iload 4, 2) := by decide +kernel
theorem dX9_meeting_13 : decode cX9_meeting 13 = .ok (.invokevirtual 131, 3) := by decide +kernel
theorem dX9_meeting_16 : decode cX9_meeting 16 = .ok (.iconst (-1), 1) := by decide +kernel
theorem dX9_meeting_17 : decode cX9_meeting 17 = .ok (.if_icmp .ne 6, 3) := by decide +kernel
theorem dX9_meeting_20 : decode cX9_meeting 20 = .ok (.bipush (-2), 2) := by decide +kernel
theorem dX9_meeting_22 : decode cX9_meeting 22 = .ok (.ireturn, 1) := by decide +kernel
theorem dX9_meeting_23 : decode cX9_meeting 23 = .ok (.iload_n 3, 1) := by decide +kernel
theorem dX9_meeting_24 : decode cX9_meeting 24 = .ok (.iconst 0, 1) := by decide +kernel
theorem dX9_meeting_25 : decode cX9_meeting 25 = .ok (.iconst 1, 1) := by decide +kernel
theorem dX9_meeting_26 : decode cX9_meeting 26 = .ok (.invokestatic 55, 3) := by decide +kernel
theorem dX9_meeting_29 : decode cX9_meeting 29 = .ok (.ifCond .ne 6, 3) := by decide +kernel
theorem dX9_meeting_32 : decode cX9_meeting 32 = .ok (.bipush (-3), 2) := by decide +kernel
theorem dX9_meeting_34 : decode cX9_meeting 34 = .ok (.ireturn, 1) := by decide +kernel
theorem dX9_meeting_35 : decode cX9_meeting 35 = .ok (.iload_n 3, 1) := by decide +kernel
theorem dX9_meeting_36 : decode cX9_meeting 36 = .ok (.ifCond .ne 15, 3) := by decide +kernel
theorem dX9_meeting_39 : decode cX9_meeting 39 = .ok (.aload_n 0, 1) := by decide +kernel
theorem dX9_meeting_40 : decode cX9_meeting 40 = .ok (.getfield 12, 3) := by decide +kernel
theorem dX9_meeting_43 : decode cX9_meeting 43 = .ok (.iload 4, 2) := by decide +kernel
theorem dX9_meeting_45 : decode cX9_meeting 45 = .ok (.invokevirtual 131, 3) := by decide +kernel
theorem dX9_meeting_48 : decode cX9_meeting 48 = .ok (.goto 12, 3) := by decide +kernel
theorem dX9_meeting_51 : decode cX9_meeting 51 = .ok (.aload_n 0, 1) := by decide +kernel
theorem dX9_meeting_52 : decode cX9_meeting 52 = .ok (.getfield 12, 3) := by decide +kernel
theorem dX9_meeting_55 : decode cX9_meeting 55 = .ok (.iload 4, 2) := by decide +kernel
theorem dX9_meeting_57 : decode cX9_meeting 57 = .ok (.invokevirtual 192, 3) := by decide +kernel
theorem dX9_meeting_60 : decode cX9_meeting 60 = .ok (.ireturn, 1) := by decide +kernel
set_option maxRecDepth 100000 in
theorem B_X9_meeting_0 {d : Nat} {h : AbH} {K : Option AbV → AbH → Prop} {x0 : Nat} {x1 : Int} {x2 : Int} {x3 : Int} (hh : Vm d m_X9_pairOf [vI x1, vI x2] h (kI (fun n2 h1 => wpGR h1 (some x0) 8 0 (fun r3 => wpCV h1 r3 7 (fun b16 => Vm d m_X8_firstOf [vR (some b16), vI n2] h1 (kI (fun n5 h4 => ((n5 ≠ (-1) → Vm d m_X9_within [vI x3, vI 0, vI 1] h4 (kI (fun n7 h6 => ((n7 ≠ 0 → ((x3 ≠ 0 → wpGR h6 (some x0) 8 0 (fun r8 => wpCV h6 r8 7 (fun b11 => Vm d m_X8_lastOf [vR (some b11), vI n2] h6 (kI (fun n10 h9 => K (some (vI n10)) h9))))) ∧ (¬ (x3 ≠ 0) → wpGR h6 (some x0) 8 0 (fun r12 => wpCV h6 r12 7 (fun b15 => Vm d m_X8_firstOf [vR (some b15), vI n2] h6 (kI (fun n14 h13 => K (some (vI n14)) h13))))))) ∧ (¬ (n7 ≠ 0) → K (some (vI (-3))) h6))))) ∧ (¬ (n5 ≠ (-1)) → K (some (vI (-2))) h4))))))))) : Vx (d + 1) m_X9_meeting 0 0 0 [some (vR (some x0)), some (vI x1), some (vI x2), some (vI x3)] [] h K := by
  refine Vx.pad 1 [some (vR (some x0)), some (vI x1), some (vI x2), some (vI x3), none] rfl ?_
  refine rr_iload_n dX9_meeting_0 rfl rfl ?_
  refine rr_iload_n dX9_meeting_1 rfl rfl ?_
  refine rr_callS (bc' := 0) (bs' := 0) (av := [vI x1, vI x2]) (st := []) mf_X9_pairOf dX9_meeting_2 rfl q_481 q_381 rfl (by decide) (Nat.le_refl _) (Nat.le_refl _) hh (rr_kI fun n2 h1 hh => ?_)
  refine rr_istore (ls' := [some (vR (some x0)), some (vI x1), some (vI x2), some (vI x3), some (vI n2)]) dX9_meeting_5 rfl (by decide) (fun _ z => by cases z) rfl ?_
  refine rr_aload_n dX9_meeting_7 rfl rfl ?_
  refine rr_getR cf_X9 (j := 0) (by decide) dX9_meeting_8 rfl q_170 hh (fun r3 hh => ?_)
  refine rr_iload dX9_meeting_11 rfl rfl ?_
  refine rr_callW (bc' := 0) (bs' := 0) (q := r3) (av := [vI n2]) (st := []) mf_X8_firstOf dX9_meeting_13 rfl q_494 q_495 q_496 ⟨_, _, rfl⟩ rfl (by decide) (Nat.le_refl _) (Nat.le_refl _) hh (rr_kI fun n5 h4 hh => ?_)
  refine rr_iconst dX9_meeting_16 rfl ⟨by decide, by decide⟩ ?_
  refine rr_icmp_ne (tgt := 23) dX9_meeting_17 rfl (by decide) (fun hc17 => ?_) (fun hc17 => ?_)
  · have hh := hh.1 hc17
    refine rr_iload_n dX9_meeting_23 rfl rfl ?_
    refine rr_iconst dX9_meeting_24 rfl ⟨by decide, by decide⟩ ?_
    refine rr_iconst dX9_meeting_25 rfl ⟨by decide, by decide⟩ ?_
    refine rr_callS (bc' := 0) (bs' := 0) (av := [vI x3, vI 0, vI 1]) (st := []) mf_X9_within dX9_meeting_26 rfl q_196 q_197 rfl (by decide) (Nat.le_refl _) (Nat.le_refl _) hh (rr_kI fun n7 h6 hh => ?_)
    refine rr_if_ne (tgt := 35) dX9_meeting_29 rfl (by decide) (fun hc29 => ?_) (fun hc29 => ?_)
    · have hh := hh.1 hc29
      refine rr_iload_n dX9_meeting_35 rfl rfl ?_
      refine rr_if_ne (tgt := 51) dX9_meeting_36 rfl (by decide) (fun hc36 => ?_) (fun hc36 => ?_)
      · have hh := hh.1 hc36
        refine rr_aload_n dX9_meeting_51 rfl rfl ?_
        refine rr_getR cf_X9 (j := 0) (by decide) dX9_meeting_52 rfl q_170 hh (fun r8 hh => ?_)
        refine rr_iload dX9_meeting_55 rfl rfl ?_
        refine rr_callW (bc' := 0) (bs' := 0) (q := r8) (av := [vI n2]) (st := []) mf_X8_lastOf dX9_meeting_57 rfl q_564 q_565 q_566 ⟨_, _, rfl⟩ rfl (by decide) (Nat.le_refl _) (Nat.le_refl _) hh (rr_kI fun n10 h9 hh => ?_)
        exact rr_iret dX9_meeting_60 rfl hh
      · have hh := hh.2 hc36
        refine rr_aload_n dX9_meeting_39 rfl rfl ?_
        refine rr_getR cf_X9 (j := 0) (by decide) dX9_meeting_40 rfl q_170 hh (fun r12 hh => ?_)
        refine rr_iload dX9_meeting_43 rfl rfl ?_
        refine rr_callW (bc' := 0) (bs' := 0) (q := r12) (av := [vI n2]) (st := []) mf_X8_firstOf dX9_meeting_45 rfl q_494 q_495 q_496 ⟨_, _, rfl⟩ rfl (by decide) (Nat.le_refl _) (Nat.le_refl _) hh (rr_kI fun n14 h13 hh => ?_)
        refine rr_goto (pc' := 60) dX9_meeting_48 (by decide) ?_
        exact rr_iret dX9_meeting_60 rfl hh
    · have hh := hh.2 hc29
      refine rr_bipush dX9_meeting_32 rfl ⟨by decide, by decide⟩ rfl ?_
      exact rr_iret dX9_meeting_34 rfl hh
  · have hh := hh.2 hc17
    refine rr_bipush dX9_meeting_20 rfl ⟨by decide, by decide⟩ rfl ?_
    exact rr_iret dX9_meeting_22 rfl hh
theorem dX9_loan_0 : decode cX9_loan 0 = .ok (.aload_n 0, 1) := by decide +kernel
theorem dX9_loan_1 : decode cX9_loan 1 = .ok (.getfield 12, 3) := by decide +kernel
theorem dX9_loan_4 : decode cX9_loan 4 = .ok (.iload_n 1, 1) := by decide +kernel
theorem dX9_loan_5 : decode cX9_loan 5 = .ok (.invokevirtual 135, 3) := by decide +kernel
theorem dX9_loan_8 : decode cX9_loan 8 = .ok (.astore_n 3, 1) := by decide +kernel
theorem dX9_loan_9 : decode cX9_loan 9 = .ok (.aload_n 3, 1) := by decide +kernel
theorem dX9_loan_10 : decode cX9_loan 10 = .ok (.ifnonnull 6, 3) := by decide +kernel
theorem dX9_loan_13 : decode cX9_loan 13 = .ok (.bipush (-2), 2) := by decide +kernel
theorem dX9_loan_15 : decode cX9_loan 15 = .ok (.ireturn, 1) := by decide +kernel
theorem dX9_loan_16 : decode cX9_loan 16 = .ok (.iload_n 2, 1) := by decide +kernel
theorem dX9_loan_17 : decode cX9_loan 17 = .ok (.tableswitch 185 0 9 #[55, 60, 65, 73, 81, 97, 113, 129, 145, 165], 55) := by decide +kernel
theorem dX9_loan_72 : decode cX9_loan 72 = .ok (.aload_n 3, 1) := by decide +kernel
theorem dX9_loan_73 : decode cX9_loan 73 = .ok (.getfield 195, 3) := by decide +kernel
theorem dX9_loan_76 : decode cX9_loan 76 = .ok (.ireturn, 1) := by decide +kernel
theorem dX9_loan_77 : decode cX9_loan 77 = .ok (.aload_n 3, 1) := by decide +kernel
theorem dX9_loan_78 : decode cX9_loan 78 = .ok (.getfield 198, 3) := by decide +kernel
theorem dX9_loan_81 : decode cX9_loan 81 = .ok (.ireturn, 1) := by decide +kernel
theorem dX9_loan_82 : decode cX9_loan 82 = .ok (.aload_n 3, 1) := by decide +kernel
theorem dX9_loan_83 : decode cX9_loan 83 = .ok (.getfield 144, 3) := by decide +kernel
theorem dX9_loan_86 : decode cX9_loan 86 = .ok (.invokestatic 201, 3) := by decide +kernel
theorem dX9_loan_89 : decode cX9_loan 89 = .ok (.ireturn, 1) := by decide +kernel
theorem dX9_loan_90 : decode cX9_loan 90 = .ok (.aload_n 3, 1) := by decide +kernel
theorem dX9_loan_91 : decode cX9_loan 91 = .ok (.getfield 206, 3) := by decide +kernel
theorem dX9_loan_94 : decode cX9_loan 94 = .ok (.invokestatic 201, 3) := by decide +kernel
theorem dX9_loan_97 : decode cX9_loan 97 = .ok (.ireturn, 1) := by decide +kernel
theorem dX9_loan_98 : decode cX9_loan 98 = .ok (.aload_n 0, 1) := by decide +kernel
theorem dX9_loan_99 : decode cX9_loan 99 = .ok (.getfield 37, 3) := by decide +kernel
theorem dX9_loan_102 : decode cX9_loan 102 = .ok (.aload_n 0, 1) := by decide +kernel
theorem dX9_loan_103 : decode cX9_loan 103 = .ok (.getfield 12, 3) := by decide +kernel
theorem dX9_loan_106 : decode cX9_loan 106 = .ok (.aload_n 3, 1) := by decide +kernel
theorem dX9_loan_107 : decode cX9_loan 107 = .ok (.invokevirtual 209, 3) := by decide +kernel
theorem dX9_loan_110 : decode cX9_loan 110 = .ok (.invokevirtual 213, 3) := by decide +kernel
theorem dX9_loan_113 : decode cX9_loan 113 = .ok (.ireturn, 1) := by decide +kernel
theorem dX9_loan_114 : decode cX9_loan 114 = .ok (.aload_n 0, 1) := by decide +kernel
theorem dX9_loan_115 : decode cX9_loan 115 = .ok (.getfield 37, 3) := by decide +kernel
theorem dX9_loan_118 : decode cX9_loan 118 = .ok (.aload_n 0, 1) := by decide +kernel
theorem dX9_loan_119 : decode cX9_loan 119 = .ok (.getfield 12, 3) := by decide +kernel
theorem dX9_loan_122 : decode cX9_loan 122 = .ok (.aload_n 3, 1) := by decide +kernel
theorem dX9_loan_123 : decode cX9_loan 123 = .ok (.invokevirtual 209, 3) := by decide +kernel
theorem dX9_loan_126 : decode cX9_loan 126 = .ok (.getfield 216, 3) := by decide +kernel
theorem dX9_loan_129 : decode cX9_loan 129 = .ok (.ireturn, 1) := by decide +kernel
theorem dX9_loan_130 : decode cX9_loan 130 = .ok (.aload_n 0, 1) := by decide +kernel
theorem dX9_loan_131 : decode cX9_loan 131 = .ok (.getfield 37, 3) := by decide +kernel
theorem dX9_loan_134 : decode cX9_loan 134 = .ok (.aload_n 0, 1) := by decide +kernel
theorem dX9_loan_135 : decode cX9_loan 135 = .ok (.getfield 12, 3) := by decide +kernel
theorem dX9_loan_138 : decode cX9_loan 138 = .ok (.aload_n 3, 1) := by decide +kernel
theorem dX9_loan_139 : decode cX9_loan 139 = .ok (.invokevirtual 209, 3) := by decide +kernel
theorem dX9_loan_142 : decode cX9_loan 142 = .ok (.invokevirtual 219, 3) := by decide +kernel
theorem dX9_loan_145 : decode cX9_loan 145 = .ok (.ireturn, 1) := by decide +kernel
theorem dX9_loan_146 : decode cX9_loan 146 = .ok (.aload_n 0, 1) := by decide +kernel
theorem dX9_loan_147 : decode cX9_loan 147 = .ok (.getfield 37, 3) := by decide +kernel
theorem dX9_loan_150 : decode cX9_loan 150 = .ok (.aload_n 0, 1) := by decide +kernel
theorem dX9_loan_151 : decode cX9_loan 151 = .ok (.getfield 12, 3) := by decide +kernel
theorem dX9_loan_154 : decode cX9_loan 154 = .ok (.aload_n 3, 1) := by decide +kernel
theorem dX9_loan_155 : decode cX9_loan 155 = .ok (.invokevirtual 209, 3) := by decide +kernel
theorem dX9_loan_158 : decode cX9_loan 158 = .ok (.invokevirtual 222, 3) := by decide +kernel
theorem dX9_loan_161 : decode cX9_loan 161 = .ok (.ireturn, 1) := by decide +kernel
theorem dX9_loan_162 : decode cX9_loan 162 = .ok (.aload_n 0, 1) := by decide +kernel
theorem dX9_loan_163 : decode cX9_loan 163 = .ok (.getfield 44, 3) := by decide +kernel
theorem dX9_loan_166 : decode cX9_loan 166 = .ok (.aload_n 0, 1) := by decide +kernel
theorem dX9_loan_167 : decode cX9_loan 167 = .ok (.getfield 12, 3) := by decide +kernel
theorem dX9_loan_170 : decode cX9_loan 170 = .ok (.aload_n 0, 1) := by decide +kernel
theorem dX9_loan_171 : decode cX9_loan 171 = .ok (.getfield 37, 3) := by decide +kernel
theorem dX9_loan_174 : decode cX9_loan 174 = .ok (.invokevirtual 224, 3) := by decide +kernel
theorem dX9_loan_177 : decode cX9_loan 177 = .ok (.iload_n 1, 1) := by decide +kernel
theorem dX9_loan_178 : decode cX9_loan 178 = .ok (.invokevirtual 227, 3) := by decide +kernel
theorem dX9_loan_181 : decode cX9_loan 181 = .ok (.ireturn, 1) := by decide +kernel
theorem dX9_loan_182 : decode cX9_loan 182 = .ok (.aload_n 0, 1) := by decide +kernel
theorem dX9_loan_183 : decode cX9_loan 183 = .ok (.getfield 44, 3) := by decide +kernel
theorem dX9_loan_186 : decode cX9_loan 186 = .ok (.aload_n 0, 1) := by decide +kernel
theorem dX9_loan_187 : decode cX9_loan 187 = .ok (.getfield 12, 3) := by decide +kernel
theorem dX9_loan_190 : decode cX9_loan 190 = .ok (.aload_n 0, 1) := by decide +kernel
theorem dX9_loan_191 : decode cX9_loan 191 = .ok (.getfield 37, 3) := by decide +kernel
theorem dX9_loan_194 : decode cX9_loan 194 = .ok (.invokevirtual 224, 3) := by decide +kernel
theorem dX9_loan_197 : decode cX9_loan 197 = .ok (.iload_n 1, 1) := by decide +kernel
theorem dX9_loan_198 : decode cX9_loan 198 = .ok (.invokevirtual 230, 3) := by decide +kernel
theorem dX9_loan_201 : decode cX9_loan 201 = .ok (.ireturn, 1) := by decide +kernel
theorem dX9_loan_202 : decode cX9_loan 202 = .ok (.bipush (-3), 2) := by decide +kernel
theorem dX9_loan_204 : decode cX9_loan 204 = .ok (.ireturn, 1) := by decide +kernel
set_option maxRecDepth 100000 in
theorem B_X9_loan_0 {d : Nat} {h : AbH} {K : Option AbV → AbH → Prop} {x0 : Nat} {x1 : Int} {x2 : Int} (hh : wpGR h (some x0) 8 0 (fun r1 => wpCV h r1 7 (fun b60 => Vm d m_X8_loanAt [vR (some b60), vI x1] h (kR (fun r3 h2 => ((r3 ≠ none → ((x2 = 0 → wpGI h2 r3 2 0 (fun n4 => K (some (vI n4)) h2)) ∧ (x2 = 1 → wpGI h2 r3 2 1 (fun n5 => K (some (vI n5)) h2)) ∧ (x2 = 2 → wpGL h2 r3 2 2 (fun n6 => Vm d m_X0_length [vL n6] h2 (kI (fun n8 h7 => K (some (vI n8)) h7)))) ∧ (x2 = 3 → wpGL h2 r3 2 3 (fun n9 => Vm d m_X0_length [vL n9] h2 (kI (fun n11 h10 => K (some (vI n11)) h10)))) ∧ (x2 = 4 → wpGR h2 (some x0) 8 4 (fun r12 => wpGR h2 (some x0) 8 0 (fun r13 => wpCV h2 r12 6 (fun b19 => Vm d m_X7_of [vR (some b19), vR r13, vR r3] h2 (kR (fun r15 h14 => wpCV h14 r15 6 (fun b18 => Vm d m_X7_kind [vR (some b18)] h14 (kI (fun n17 h16 => K (some (vI n17)) h16))))))))) ∧ (x2 = 5 → wpGR h2 (some x0) 8 4 (fun r20 => wpGR h2 (some x0) 8 0 (fun r21 => wpCV h2 r20 6 (fun b25 => Vm d m_X7_of [vR (some b25), vR r21, vR r3] h2 (kR (fun r23 h22 => wpGI h22 r23 6 2 (fun n24 => K (some (vI n24)) h22))))))) ∧ (x2 = 6 → wpGR h2 (some x0) 8 4 (fun r26 => wpGR h2 (some x0) 8 0 (fun r27 => wpCV h2 r26 6 (fun b33 => Vm d m_X7_of [vR (some b33), vR r27, vR r3] h2 (kR (fun r29 h28 => wpCV h28 r29 6 (fun b32 => Vm d m_X7_earliest [vR (some b32)] h28 (kI (fun n31 h30 => K (some (vI n31)) h30))))))))) ∧ (x2 = 7 → wpGR h2 (some x0) 8 4 (fun r34 => wpGR h2 (some x0) 8 0 (fun r35 => wpCV h2 r34 6 (fun b41 => Vm d m_X7_of [vR (some b41), vR r35, vR r3] h2 (kR (fun r37 h36 => wpCV h36 r37 6 (fun b40 => Vm d m_X7_latest [vR (some b40)] h36 (kI (fun n39 h38 => K (some (vI n39)) h38))))))))) ∧ (x2 = 8 → wpGR h2 (some x0) 8 5 (fun r42 => wpGR h2 (some x0) 8 0 (fun r43 => wpGR h2 (some x0) 8 4 (fun r44 => wpCV h2 r42 1 (fun b50 => Vm d m_X2_of [vR (some b50), vR r43, vR r44] h2 (kR (fun r46 h45 => wpCV h45 r46 1 (fun b49 => Vm d m_X2_layerOf [vR (some b49), vI x1] h45 (kI (fun n48 h47 => K (some (vI n48)) h47)))))))))) ∧ (x2 = 9 → wpGR h2 (some x0) 8 5 (fun r51 => wpGR h2 (some x0) 8 0 (fun r52 => wpGR h2 (some x0) 8 4 (fun r53 => wpCV h2 r51 1 (fun b59 => Vm d m_X2_of [vR (some b59), vR r52, vR r53] h2 (kR (fun r55 h54 => wpCV h54 r55 1 (fun b58 => Vm d m_X2_olderThan [vR (some b58), vI x1] h54 (kI (fun n57 h56 => K (some (vI n57)) h56)))))))))) ∧ ((x2 < 0 ∨ 9 < x2) → K (some (vI (-3))) h2))) ∧ (¬ (r3 ≠ none) → K (some (vI (-2))) h2))))))) : Vx (d + 1) m_X9_loan 0 0 0 [some (vR (some x0)), some (vI x1), some (vI x2)] [] h K := by
  refine Vx.pad 1 [some (vR (some x0)), some (vI x1), some (vI x2), none] rfl ?_
  refine rr_aload_n dX9_loan_0 rfl rfl ?_
  refine rr_getR cf_X9 (j := 0) (by decide) dX9_loan_1 rfl q_170 hh (fun r1 hh => ?_)
  refine rr_iload_n dX9_loan_4 rfl rfl ?_
  refine rr_callW (bc' := 0) (bs' := 0) (q := r1) (av := [vI x1]) (st := []) mf_X8_loanAt dX9_loan_5 rfl q_502 q_503 q_504 ⟨_, _, rfl⟩ rfl (by decide) (Nat.le_refl _) (Nat.le_refl _) hh (rr_kR fun r3 h2 hh => ?_)
  refine rr_astore_n (ls' := [some (vR (some x0)), some (vI x1), some (vI x2), some (vR r3)]) dX9_loan_8 rfl (by decide) (fun _ z => by cases z) rfl ?_
  refine rr_aload_n dX9_loan_9 rfl rfl ?_
  refine rr_ifnonnull (tgt := 16) dX9_loan_10 rfl (by decide) (fun hc10 => ?_) (fun hc10 => ?_)
  · have hh := hh.1 hc10
    refine rr_iload_n dX9_loan_16 rfl rfl ?_
    by_cases hz17_0 : x2 = 0
    · have hh := hh.1 hz17_0
      refine rr_tableIn (pc' := 72) 0 dX9_loan_17 (by rw [hz17_0]; rfl) (by decide) rfl (by decide) ?_
      refine rr_aload_n dX9_loan_72 rfl rfl ?_
      refine rr_getI cf_X3 (j := 0) (by decide) dX9_loan_73 rfl q_408 hh (fun n4 hh => ?_)
      exact rr_iret dX9_loan_76 rfl hh
    by_cases hz17_1 : x2 = 1
    · have hh := hh.2.1 hz17_1
      refine rr_tableIn (pc' := 77) 1 dX9_loan_17 (by rw [hz17_1]; rfl) (by decide) rfl (by decide) ?_
      refine rr_aload_n dX9_loan_77 rfl rfl ?_
      refine rr_getI cf_X3 (j := 1) (by decide) dX9_loan_78 rfl q_412 hh (fun n5 hh => ?_)
      exact rr_iret dX9_loan_81 rfl hh
    by_cases hz17_2 : x2 = 2
    · have hh := hh.2.2.1 hz17_2
      refine rr_tableIn (pc' := 82) 2 dX9_loan_17 (by rw [hz17_2]; rfl) (by decide) rfl (by decide) ?_
      refine rr_aload_n dX9_loan_82 rfl rfl ?_
      refine rr_getL cf_X3 (j := 2) (by decide) dX9_loan_83 rfl q_415 hh (fun n6 hh => ?_)
      refine rr_callS (bc' := 0) (bs' := 0) (av := [vL n6]) (st := []) mf_X0_length dX9_loan_86 rfl q_572 q_573 rfl (by decide) (Nat.le_refl _) (Nat.le_refl _) hh (rr_kI fun n8 h7 hh => ?_)
      exact rr_iret dX9_loan_89 rfl hh
    by_cases hz17_3 : x2 = 3
    · have hh := hh.2.2.2.1 hz17_3
      refine rr_tableIn (pc' := 90) 3 dX9_loan_17 (by rw [hz17_3]; rfl) (by decide) rfl (by decide) ?_
      refine rr_aload_n dX9_loan_90 rfl rfl ?_
      refine rr_getL cf_X3 (j := 3) (by decide) dX9_loan_91 rfl q_418 hh (fun n9 hh => ?_)
      refine rr_callS (bc' := 0) (bs' := 0) (av := [vL n9]) (st := []) mf_X0_length dX9_loan_94 rfl q_572 q_573 rfl (by decide) (Nat.le_refl _) (Nat.le_refl _) hh (rr_kI fun n11 h10 hh => ?_)
      exact rr_iret dX9_loan_97 rfl hh
    by_cases hz17_4 : x2 = 4
    · have hh := hh.2.2.2.2.1 hz17_4
      refine rr_tableIn (pc' := 98) 4 dX9_loan_17 (by rw [hz17_4]; rfl) (by decide) rfl (by decide) ?_
      refine rr_aload_n dX9_loan_98 rfl rfl ?_
      refine rr_getR cf_X9 (j := 4) (by decide) dX9_loan_99 rfl q_174 hh (fun r12 hh => ?_)
      refine rr_aload_n dX9_loan_102 rfl rfl ?_
      refine rr_getR cf_X9 (j := 0) (by decide) dX9_loan_103 rfl q_170 hh (fun r13 hh => ?_)
      refine rr_aload_n dX9_loan_106 rfl rfl ?_
      refine rr_callW (bc' := 0) (bs' := 0) (q := r12) (av := [vR r13, vR r3]) (st := []) mf_X7_of dX9_loan_107 rfl q_576 q_577 q_578 ⟨_, _, rfl⟩ rfl (by decide) (Nat.le_refl _) (Nat.le_refl _) hh (rr_kR fun r15 h14 hh => ?_)
      refine rr_callW (bc' := 0) (bs' := 0) (q := r15) (av := []) (st := []) mf_X7_kind dX9_loan_110 rfl q_595 q_596 q_597 ⟨_, _, rfl⟩ rfl (by decide) (Nat.le_refl _) (Nat.le_refl _) hh (rr_kI fun n17 h16 hh => ?_)
      exact rr_iret dX9_loan_113 rfl hh
    by_cases hz17_5 : x2 = 5
    · have hh := hh.2.2.2.2.2.1 hz17_5
      refine rr_tableIn (pc' := 114) 5 dX9_loan_17 (by rw [hz17_5]; rfl) (by decide) rfl (by decide) ?_
      refine rr_aload_n dX9_loan_114 rfl rfl ?_
      refine rr_getR cf_X9 (j := 4) (by decide) dX9_loan_115 rfl q_174 hh (fun r20 hh => ?_)
      refine rr_aload_n dX9_loan_118 rfl rfl ?_
      refine rr_getR cf_X9 (j := 0) (by decide) dX9_loan_119 rfl q_170 hh (fun r21 hh => ?_)
      refine rr_aload_n dX9_loan_122 rfl rfl ?_
      refine rr_callW (bc' := 0) (bs' := 0) (q := r20) (av := [vR r21, vR r3]) (st := []) mf_X7_of dX9_loan_123 rfl q_576 q_577 q_578 ⟨_, _, rfl⟩ rfl (by decide) (Nat.le_refl _) (Nat.le_refl _) hh (rr_kR fun r23 h22 hh => ?_)
      refine rr_getI cf_X7 (j := 2) (by decide) dX9_loan_126 rfl q_111 hh (fun n24 hh => ?_)
      exact rr_iret dX9_loan_129 rfl hh
    by_cases hz17_6 : x2 = 6
    · have hh := hh.2.2.2.2.2.2.1 hz17_6
      refine rr_tableIn (pc' := 130) 6 dX9_loan_17 (by rw [hz17_6]; rfl) (by decide) rfl (by decide) ?_
      refine rr_aload_n dX9_loan_130 rfl rfl ?_
      refine rr_getR cf_X9 (j := 4) (by decide) dX9_loan_131 rfl q_174 hh (fun r26 hh => ?_)
      refine rr_aload_n dX9_loan_134 rfl rfl ?_
      refine rr_getR cf_X9 (j := 0) (by decide) dX9_loan_135 rfl q_170 hh (fun r27 hh => ?_)
      refine rr_aload_n dX9_loan_138 rfl rfl ?_
      refine rr_callW (bc' := 0) (bs' := 0) (q := r26) (av := [vR r27, vR r3]) (st := []) mf_X7_of dX9_loan_139 rfl q_576 q_577 q_578 ⟨_, _, rfl⟩ rfl (by decide) (Nat.le_refl _) (Nat.le_refl _) hh (rr_kR fun r29 h28 hh => ?_)
      refine rr_callW (bc' := 0) (bs' := 0) (q := r29) (av := []) (st := []) mf_X7_earliest dX9_loan_142 rfl q_599 q_600 q_601 ⟨_, _, rfl⟩ rfl (by decide) (Nat.le_refl _) (Nat.le_refl _) hh (rr_kI fun n31 h30 hh => ?_)
      exact rr_iret dX9_loan_145 rfl hh
    by_cases hz17_7 : x2 = 7
    · have hh := hh.2.2.2.2.2.2.2.1 hz17_7
      refine rr_tableIn (pc' := 146) 7 dX9_loan_17 (by rw [hz17_7]; rfl) (by decide) rfl (by decide) ?_
      refine rr_aload_n dX9_loan_146 rfl rfl ?_
      refine rr_getR cf_X9 (j := 4) (by decide) dX9_loan_147 rfl q_174 hh (fun r34 hh => ?_)
      refine rr_aload_n dX9_loan_150 rfl rfl ?_
      refine rr_getR cf_X9 (j := 0) (by decide) dX9_loan_151 rfl q_170 hh (fun r35 hh => ?_)
      refine rr_aload_n dX9_loan_154 rfl rfl ?_
      refine rr_callW (bc' := 0) (bs' := 0) (q := r34) (av := [vR r35, vR r3]) (st := []) mf_X7_of dX9_loan_155 rfl q_576 q_577 q_578 ⟨_, _, rfl⟩ rfl (by decide) (Nat.le_refl _) (Nat.le_refl _) hh (rr_kR fun r37 h36 hh => ?_)
      refine rr_callW (bc' := 0) (bs' := 0) (q := r37) (av := []) (st := []) mf_X7_latest dX9_loan_158 rfl q_607 q_608 q_609 ⟨_, _, rfl⟩ rfl (by decide) (Nat.le_refl _) (Nat.le_refl _) hh (rr_kI fun n39 h38 hh => ?_)
      exact rr_iret dX9_loan_161 rfl hh
    by_cases hz17_8 : x2 = 8
    · have hh := hh.2.2.2.2.2.2.2.2.1 hz17_8
      refine rr_tableIn (pc' := 162) 8 dX9_loan_17 (by rw [hz17_8]; rfl) (by decide) rfl (by decide) ?_
      refine rr_aload_n dX9_loan_162 rfl rfl ?_
      refine rr_getR cf_X9 (j := 5) (by decide) dX9_loan_163 rfl q_175 hh (fun r42 hh => ?_)
      refine rr_aload_n dX9_loan_166 rfl rfl ?_
      refine rr_getR cf_X9 (j := 0) (by decide) dX9_loan_167 rfl q_170 hh (fun r43 hh => ?_)
      refine rr_aload_n dX9_loan_170 rfl rfl ?_
      refine rr_getR cf_X9 (j := 4) (by decide) dX9_loan_171 rfl q_174 hh (fun r44 hh => ?_)
      refine rr_callW (bc' := 0) (bs' := 0) (q := r42) (av := [vR r43, vR r44]) (st := []) mf_X2_of dX9_loan_174 rfl q_611 q_612 q_613 ⟨_, _, rfl⟩ rfl (by decide) (Nat.le_refl _) (Nat.le_refl _) hh (rr_kR fun r46 h45 hh => ?_)
      refine rr_iload_n dX9_loan_177 rfl rfl ?_
      refine rr_callW (bc' := 0) (bs' := 0) (q := r46) (av := [vI x1]) (st := []) mf_X2_layerOf dX9_loan_178 rfl q_635 q_636 q_637 ⟨_, _, rfl⟩ rfl (by decide) (Nat.le_refl _) (Nat.le_refl _) hh (rr_kI fun n48 h47 hh => ?_)
      exact rr_iret dX9_loan_181 rfl hh
    by_cases hz17_9 : x2 = 9
    · have hh := hh.2.2.2.2.2.2.2.2.2.1 hz17_9
      refine rr_tableIn (pc' := 182) 9 dX9_loan_17 (by rw [hz17_9]; rfl) (by decide) rfl (by decide) ?_
      refine rr_aload_n dX9_loan_182 rfl rfl ?_
      refine rr_getR cf_X9 (j := 5) (by decide) dX9_loan_183 rfl q_175 hh (fun r51 hh => ?_)
      refine rr_aload_n dX9_loan_186 rfl rfl ?_
      refine rr_getR cf_X9 (j := 0) (by decide) dX9_loan_187 rfl q_170 hh (fun r52 hh => ?_)
      refine rr_aload_n dX9_loan_190 rfl rfl ?_
      refine rr_getR cf_X9 (j := 4) (by decide) dX9_loan_191 rfl q_174 hh (fun r53 hh => ?_)
      refine rr_callW (bc' := 0) (bs' := 0) (q := r51) (av := [vR r52, vR r53]) (st := []) mf_X2_of dX9_loan_194 rfl q_611 q_612 q_613 ⟨_, _, rfl⟩ rfl (by decide) (Nat.le_refl _) (Nat.le_refl _) hh (rr_kR fun r55 h54 hh => ?_)
      refine rr_iload_n dX9_loan_197 rfl rfl ?_
      refine rr_callW (bc' := 0) (bs' := 0) (q := r55) (av := [vI x1]) (st := []) mf_X2_olderThan dX9_loan_198 rfl q_639 q_640 q_641 ⟨_, _, rfl⟩ rfl (by decide) (Nat.le_refl _) (Nat.le_refl _) hh (rr_kI fun n57 h56 hh => ?_)
      exact rr_iret dX9_loan_201 rfl hh
    have hz17_o : x2 < 0 ∨ 9 < x2 := by omega
    have hh := hh.2.2.2.2.2.2.2.2.2.2 hz17_o
    refine rr_tableOut (pc' := 202) dX9_loan_17 hz17_o (by decide) ?_
    refine rr_bipush dX9_loan_202 rfl ⟨by decide, by decide⟩ rfl ?_
    exact rr_iret dX9_loan_204 rfl hh
  · have hh := hh.2 hc10
    refine rr_bipush dX9_loan_13 rfl ⟨by decide, by decide⟩ rfl ?_
    exact rr_iret dX9_loan_15 rfl hh
theorem dX9_sound_0 : decode cX9_sound 0 = .ok (.aload_n 0, 1) := by decide +kernel
theorem dX9_sound_1 : decode cX9_sound 1 = .ok (.getfield 12, 3) := by decide +kernel
theorem dX9_sound_4 : decode cX9_sound 4 = .ok (.iload_n 1, 1) := by decide +kernel
theorem dX9_sound_5 : decode cX9_sound 5 = .ok (.invokevirtual 135, 3) := by decide +kernel
theorem dX9_sound_8 : decode cX9_sound 8 = .ok (.astore 4, 2) := by decide +kernel
theorem dX9_sound_10 : decode cX9_sound 10 = .ok (.aload 4, 2) := by decide +kernel
theorem dX9_sound_12 : decode cX9_sound 12 = .ok (.ifnonnull 6, 3) := by decide +kernel
theorem dX9_sound_15 : decode cX9_sound 15 = .ok (.bipush (-2), 2) := by decide +kernel
theorem dX9_sound_17 : decode cX9_sound 17 = .ok (.ireturn, 1) := by decide +kernel
theorem dX9_sound_18 : decode cX9_sound 18 = .ok (.iload_n 2, 1) := by decide +kernel
theorem dX9_sound_19 : decode cX9_sound 19 = .ok (.iconst 0, 1) := by decide +kernel
theorem dX9_sound_20 : decode cX9_sound 20 = .ok (.iconst 1, 1) := by decide +kernel
theorem dX9_sound_21 : decode cX9_sound 21 = .ok (.invokestatic 55, 3) := by decide +kernel
theorem dX9_sound_24 : decode cX9_sound 24 = .ok (.ifCond .ne 6, 3) := by decide +kernel
theorem dX9_sound_27 : decode cX9_sound 27 = .ok (.bipush (-3), 2) := by decide +kernel
theorem dX9_sound_29 : decode cX9_sound 29 = .ok (.ireturn, 1) := by decide +kernel
theorem dX9_sound_30 : decode cX9_sound 30 = .ok (.iload_n 2, 1) := by decide +kernel
theorem dX9_sound_31 : decode cX9_sound 31 = .ok (.ifCond .ne 11, 3) := by decide +kernel
theorem dX9_sound_34 : decode cX9_sound 34 = .ok (.aload 4, 2) := by decide +kernel
theorem dX9_sound_36 : decode cX9_sound 36 = .ok (.getfield 144, 3) := by decide +kernel
theorem dX9_sound_39 : decode cX9_sound 39 = .ok (.goto 8, 3) := by decide +kernel
theorem dX9_sound_42 : decode cX9_sound 42 = .ok (.aload 4, 2) := by decide +kernel
theorem dX9_sound_44 : decode cX9_sound 44 = .ok (.getfield 206, 3) := by decide +kernel
theorem dX9_sound_47 : decode cX9_sound 47 = .ok (.iload_n 3, 1) := by decide +kernel
theorem dX9_sound_48 : decode cX9_sound 48 = .ok (.invokestatic 233, 3) := by decide +kernel
theorem dX9_sound_51 : decode cX9_sound 51 = .ok (.istore 5, 2) := by decide +kernel
theorem dX9_sound_53 : decode cX9_sound 53 = .ok (.iload 5, 2) := by decide +kernel
theorem dX9_sound_55 : decode cX9_sound 55 = .ok (.iconst (-1), 1) := by decide +kernel
theorem dX9_sound_56 : decode cX9_sound 56 = .ok (.if_icmp .ne 8, 3) := by decide +kernel
theorem dX9_sound_59 : decode cX9_sound 59 = .ok (.bipush (-2), 2) := by decide +kernel
theorem dX9_sound_61 : decode cX9_sound 61 = .ok (.goto 5, 3) := by decide +kernel
theorem dX9_sound_64 : decode cX9_sound 64 = .ok (.iload 5, 2) := by decide +kernel
theorem dX9_sound_66 : decode cX9_sound 66 = .ok (.ireturn, 1) := by decide +kernel
set_option maxRecDepth 100000 in
theorem B_X9_sound_0 {d : Nat} {h : AbH} {K : Option AbV → AbH → Prop} {x0 : Nat} {x1 : Int} {x2 : Int} {x3 : Int} (hh : wpGR h (some x0) 8 0 (fun r1 => wpCV h r1 7 (fun b12 => Vm d m_X8_loanAt [vR (some b12), vI x1] h (kR (fun r3 h2 => ((r3 ≠ none → Vm d m_X9_within [vI x2, vI 0, vI 1] h2 (kI (fun n5 h4 => ((n5 ≠ 0 → ((x2 ≠ 0 → wpGL h4 r3 2 3 (fun n6 => Vm d m_X0_soundAt [vL n6, vI x3] h4 (kI (fun n8 h7 => ((n8 ≠ (-1) → K (some (vI n8)) h7) ∧ (¬ (n8 ≠ (-1)) → K (some (vI (-2))) h7)))))) ∧ (¬ (x2 ≠ 0) → wpGL h4 r3 2 2 (fun n9 => Vm d m_X0_soundAt [vL n9, vI x3] h4 (kI (fun n11 h10 => ((n11 ≠ (-1) → K (some (vI n11)) h10) ∧ (¬ (n11 ≠ (-1)) → K (some (vI (-2))) h10)))))))) ∧ (¬ (n5 ≠ 0) → K (some (vI (-3))) h4))))) ∧ (¬ (r3 ≠ none) → K (some (vI (-2))) h2))))))) : Vx (d + 1) m_X9_sound 0 0 0 [some (vR (some x0)), some (vI x1), some (vI x2), some (vI x3)] [] h K := by
  refine Vx.pad 2 [some (vR (some x0)), some (vI x1), some (vI x2), some (vI x3), none, none] rfl ?_
  refine rr_aload_n dX9_sound_0 rfl rfl ?_
  refine rr_getR cf_X9 (j := 0) (by decide) dX9_sound_1 rfl q_170 hh (fun r1 hh => ?_)
  refine rr_iload_n dX9_sound_4 rfl rfl ?_
  refine rr_callW (bc' := 0) (bs' := 0) (q := r1) (av := [vI x1]) (st := []) mf_X8_loanAt dX9_sound_5 rfl q_502 q_503 q_504 ⟨_, _, rfl⟩ rfl (by decide) (Nat.le_refl _) (Nat.le_refl _) hh (rr_kR fun r3 h2 hh => ?_)
  refine rr_astore (ls' := [some (vR (some x0)), some (vI x1), some (vI x2), some (vI x3), some (vR r3), none]) dX9_sound_8 rfl (by decide) (fun _ z => by cases z) rfl ?_
  refine rr_aload dX9_sound_10 rfl rfl ?_
  refine rr_ifnonnull (tgt := 18) dX9_sound_12 rfl (by decide) (fun hc12 => ?_) (fun hc12 => ?_)
  · have hh := hh.1 hc12
    refine rr_iload_n dX9_sound_18 rfl rfl ?_
    refine rr_iconst dX9_sound_19 rfl ⟨by decide, by decide⟩ ?_
    refine rr_iconst dX9_sound_20 rfl ⟨by decide, by decide⟩ ?_
    refine rr_callS (bc' := 0) (bs' := 0) (av := [vI x2, vI 0, vI 1]) (st := []) mf_X9_within dX9_sound_21 rfl q_196 q_197 rfl (by decide) (Nat.le_refl _) (Nat.le_refl _) hh (rr_kI fun n5 h4 hh => ?_)
    refine rr_if_ne (tgt := 30) dX9_sound_24 rfl (by decide) (fun hc24 => ?_) (fun hc24 => ?_)
    · have hh := hh.1 hc24
      refine rr_iload_n dX9_sound_30 rfl rfl ?_
      refine rr_if_ne (tgt := 42) dX9_sound_31 rfl (by decide) (fun hc31 => ?_) (fun hc31 => ?_)
      · have hh := hh.1 hc31
        refine rr_aload dX9_sound_42 rfl rfl ?_
        refine rr_getL cf_X3 (j := 3) (by decide) dX9_sound_44 rfl q_418 hh (fun n6 hh => ?_)
        refine rr_iload_n dX9_sound_47 rfl rfl ?_
        refine rr_callS (bc' := 0) (bs' := 0) (av := [vL n6, vI x3]) (st := []) mf_X0_soundAt dX9_sound_48 rfl q_647 q_520 rfl (by decide) (Nat.le_refl _) (Nat.le_refl _) hh (rr_kI fun n8 h7 hh => ?_)
        refine rr_istore (ls' := [some (vR (some x0)), some (vI x1), some (vI x2), some (vI x3), some (vR r3), some (vI n8)]) dX9_sound_51 rfl (by decide) (fun _ z => by cases z) rfl ?_
        refine rr_iload dX9_sound_53 rfl rfl ?_
        refine rr_iconst dX9_sound_55 rfl ⟨by decide, by decide⟩ ?_
        refine rr_icmp_ne (tgt := 64) dX9_sound_56 rfl (by decide) (fun hc56 => ?_) (fun hc56 => ?_)
        · have hh := hh.1 hc56
          refine rr_iload dX9_sound_64 rfl rfl ?_
          exact rr_iret dX9_sound_66 rfl hh
        · have hh := hh.2 hc56
          refine rr_bipush dX9_sound_59 rfl ⟨by decide, by decide⟩ rfl ?_
          refine rr_goto (pc' := 66) dX9_sound_61 (by decide) ?_
          exact rr_iret dX9_sound_66 rfl hh
      · have hh := hh.2 hc31
        refine rr_aload dX9_sound_34 rfl rfl ?_
        refine rr_getL cf_X3 (j := 2) (by decide) dX9_sound_36 rfl q_415 hh (fun n9 hh => ?_)
        refine rr_goto (pc' := 47) dX9_sound_39 (by decide) ?_
        refine rr_iload_n dX9_sound_47 rfl rfl ?_
        refine rr_callS (bc' := 0) (bs' := 0) (av := [vL n9, vI x3]) (st := []) mf_X0_soundAt dX9_sound_48 rfl q_647 q_520 rfl (by decide) (Nat.le_refl _) (Nat.le_refl _) hh (rr_kI fun n11 h10 hh => ?_)
        refine rr_istore (ls' := [some (vR (some x0)), some (vI x1), some (vI x2), some (vI x3), some (vR r3), some (vI n11)]) dX9_sound_51 rfl (by decide) (fun _ z => by cases z) rfl ?_
        refine rr_iload dX9_sound_53 rfl rfl ?_
        refine rr_iconst dX9_sound_55 rfl ⟨by decide, by decide⟩ ?_
        refine rr_icmp_ne (tgt := 64) dX9_sound_56 rfl (by decide) (fun hc56 => ?_) (fun hc56 => ?_)
        · have hh := hh.1 hc56
          refine rr_iload dX9_sound_64 rfl rfl ?_
          exact rr_iret dX9_sound_66 rfl hh
        · have hh := hh.2 hc56
          refine rr_bipush dX9_sound_59 rfl ⟨by decide, by decide⟩ rfl ?_
          refine rr_goto (pc' := 66) dX9_sound_61 (by decide) ?_
          exact rr_iret dX9_sound_66 rfl hh
    · have hh := hh.2 hc24
      refine rr_bipush dX9_sound_27 rfl ⟨by decide, by decide⟩ rfl ?_
      exact rr_iret dX9_sound_29 rfl hh
  · have hh := hh.2 hc12
    refine rr_bipush dX9_sound_15 rfl ⟨by decide, by decide⟩ rfl ?_
    exact rr_iret dX9_sound_17 rfl hh
theorem dX9_window_0 : decode cX9_window 0 = .ok (.aload_n 0, 1) := by decide +kernel
theorem dX9_window_1 : decode cX9_window 1 = .ok (.getfield 12, 3) := by decide +kernel
theorem dX9_window_4 : decode cX9_window 4 = .ok (.iload_n 1, 1) := by decide +kernel
theorem dX9_window_5 : decode cX9_window 5 = .ok (.invokevirtual 135, 3) := by decide +kernel
theorem dX9_window_8 : decode cX9_window 8 = .ok (.astore 4, 2) := by decide +kernel
theorem dX9_window_10 : decode cX9_window 10 = .ok (.aload 4, 2) := by decide +kernel
theorem dX9_window_12 : decode cX9_window 12 = .ok (.ifnonnull 6, 3) := by decide +kernel
theorem dX9_window_15 : decode cX9_window 15 = .ok (.bipush (-2), 2) := by decide +kernel
theorem dX9_window_17 : decode cX9_window 17 = .ok (.ireturn, 1) := by decide +kernel
theorem dX9_window_18 : decode cX9_window 18 = .ok (.aload_n 0, 1) := by decide +kernel
theorem dX9_window_19 : decode cX9_window 19 = .ok (.getfield 37, 3) := by decide +kernel
theorem dX9_window_22 : decode cX9_window 22 = .ok (.aload_n 0, 1) := by decide +kernel
theorem dX9_window_23 : decode cX9_window 23 = .ok (.getfield 12, 3) := by decide +kernel
theorem dX9_window_26 : decode cX9_window 26 = .ok (.aload 4, 2) := by decide +kernel
theorem dX9_window_28 : decode cX9_window 28 = .ok (.invokevirtual 209, 3) := by decide +kernel
theorem dX9_window_31 : decode cX9_window 31 = .ok (.iload_n 2, 1) := by decide +kernel
theorem dX9_window_32 : decode cX9_window 32 = .ok (.invokevirtual 237, 3) := by decide +kernel
theorem dX9_window_35 : decode cX9_window 35 = .ok (.istore 5, 2) := by decide +kernel
theorem dX9_window_37 : decode cX9_window 37 = .ok (.iload 5, 2) := by decide +kernel
theorem dX9_window_39 : decode cX9_window 39 = .ok (.iconst (-1), 1) := by decide +kernel
theorem dX9_window_40 : decode cX9_window 40 = .ok (.if_icmp .ne 6, 3) := by decide +kernel
theorem dX9_window_43 : decode cX9_window 43 = .ok (.bipush (-2), 2) := by decide +kernel
theorem dX9_window_45 : decode cX9_window 45 = .ok (.ireturn, 1) := by decide +kernel
theorem dX9_window_46 : decode cX9_window 46 = .ok (.iload_n 3, 1) := by decide +kernel
theorem dX9_window_47 : decode cX9_window 47 = .ok (.iconst 0, 1) := by decide +kernel
theorem dX9_window_48 : decode cX9_window 48 = .ok (.iconst 1, 1) := by decide +kernel
theorem dX9_window_49 : decode cX9_window 49 = .ok (.invokestatic 55, 3) := by decide +kernel
theorem dX9_window_52 : decode cX9_window 52 = .ok (.ifCond .ne 6, 3) := by decide +kernel
theorem dX9_window_55 : decode cX9_window 55 = .ok (.bipush (-3), 2) := by decide +kernel
theorem dX9_window_57 : decode cX9_window 57 = .ok (.ireturn, 1) := by decide +kernel
theorem dX9_window_58 : decode cX9_window 58 = .ok (.iload_n 3, 1) := by decide +kernel
theorem dX9_window_59 : decode cX9_window 59 = .ok (.ifCond .ne 8, 3) := by decide +kernel
theorem dX9_window_62 : decode cX9_window 62 = .ok (.iload 5, 2) := by decide +kernel
theorem dX9_window_64 : decode cX9_window 64 = .ok (.goto 11, 3) := by decide +kernel
theorem dX9_window_67 : decode cX9_window 67 = .ok (.aload_n 0, 1) := by decide +kernel
theorem dX9_window_68 : decode cX9_window 68 = .ok (.getfield 37, 3) := by decide +kernel
theorem dX9_window_71 : decode cX9_window 71 = .ok (.iload_n 2, 1) := by decide +kernel
theorem dX9_window_72 : decode cX9_window 72 = .ok (.invokevirtual 238, 3) := by decide +kernel
theorem dX9_window_75 : decode cX9_window 75 = .ok (.ireturn, 1) := by decide +kernel
set_option maxRecDepth 100000 in
theorem B_X9_window_0 {d : Nat} {h : AbH} {K : Option AbV → AbH → Prop} {x0 : Nat} {x1 : Int} {x2 : Int} {x3 : Int} (hh : wpGR h (some x0) 8 0 (fun r1 => wpCV h r1 7 (fun b18 => Vm d m_X8_loanAt [vR (some b18), vI x1] h (kR (fun r3 h2 => ((r3 ≠ none → wpGR h2 (some x0) 8 4 (fun r4 => wpGR h2 (some x0) 8 0 (fun r5 => wpCV h2 r4 6 (fun b17 => Vm d m_X7_of [vR (some b17), vR r5, vR r3] h2 (kR (fun r7 h6 => wpCV h6 r7 6 (fun b16 => Vm d m_X7_firstOf [vR (some b16), vI x2] h6 (kI (fun n9 h8 => ((n9 ≠ (-1) → Vm d m_X9_within [vI x3, vI 0, vI 1] h8 (kI (fun n11 h10 => ((n11 ≠ 0 → ((x3 ≠ 0 → wpGR h10 (some x0) 8 4 (fun r12 => wpCV h10 r12 6 (fun b15 => Vm d m_X7_lastOf [vR (some b15), vI x2] h10 (kI (fun n14 h13 => K (some (vI n14)) h13))))) ∧ (¬ (x3 ≠ 0) → K (some (vI n9)) h10))) ∧ (¬ (n11 ≠ 0) → K (some (vI (-3))) h10))))) ∧ (¬ (n9 ≠ (-1)) → K (some (vI (-2))) h8))))))))))) ∧ (¬ (r3 ≠ none) → K (some (vI (-2))) h2))))))) : Vx (d + 1) m_X9_window 0 0 0 [some (vR (some x0)), some (vI x1), some (vI x2), some (vI x3)] [] h K := by
  refine Vx.pad 2 [some (vR (some x0)), some (vI x1), some (vI x2), some (vI x3), none, none] rfl ?_
  refine rr_aload_n dX9_window_0 rfl rfl ?_
  refine rr_getR cf_X9 (j := 0) (by decide) dX9_window_1 rfl q_170 hh (fun r1 hh => ?_)
  refine rr_iload_n dX9_window_4 rfl rfl ?_
  refine rr_callW (bc' := 0) (bs' := 0) (q := r1) (av := [vI x1]) (st := []) mf_X8_loanAt dX9_window_5 rfl q_502 q_503 q_504 ⟨_, _, rfl⟩ rfl (by decide) (Nat.le_refl _) (Nat.le_refl _) hh (rr_kR fun r3 h2 hh => ?_)
  refine rr_astore (ls' := [some (vR (some x0)), some (vI x1), some (vI x2), some (vI x3), some (vR r3), none]) dX9_window_8 rfl (by decide) (fun _ z => by cases z) rfl ?_
  refine rr_aload dX9_window_10 rfl rfl ?_
  refine rr_ifnonnull (tgt := 18) dX9_window_12 rfl (by decide) (fun hc12 => ?_) (fun hc12 => ?_)
  · have hh := hh.1 hc12
    refine rr_aload_n dX9_window_18 rfl rfl ?_
    refine rr_getR cf_X9 (j := 4) (by decide) dX9_window_19 rfl q_174 hh (fun r4 hh => ?_)
    refine rr_aload_n dX9_window_22 rfl rfl ?_
    refine rr_getR cf_X9 (j := 0) (by decide) dX9_window_23 rfl q_170 hh (fun r5 hh => ?_)
    refine rr_aload dX9_window_26 rfl rfl ?_
    refine rr_callW (bc' := 0) (bs' := 0) (q := r4) (av := [vR r5, vR r3]) (st := []) mf_X7_of dX9_window_28 rfl q_576 q_577 q_578 ⟨_, _, rfl⟩ rfl (by decide) (Nat.le_refl _) (Nat.le_refl _) hh (rr_kR fun r7 h6 hh => ?_)
    refine rr_iload_n dX9_window_31 rfl rfl ?_
    refine rr_callW (bc' := 0) (bs' := 0) (q := r7) (av := [vI x2]) (st := []) mf_X7_firstOf dX9_window_32 rfl q_652 q_604 q_605 ⟨_, _, rfl⟩ rfl (by decide) (Nat.le_refl _) (Nat.le_refl _) hh (rr_kI fun n9 h8 hh => ?_)
    refine rr_istore (ls' := [some (vR (some x0)), some (vI x1), some (vI x2), some (vI x3), some (vR r3), some (vI n9)]) dX9_window_35 rfl (by decide) (fun _ z => by cases z) rfl ?_
    refine rr_iload dX9_window_37 rfl rfl ?_
    refine rr_iconst dX9_window_39 rfl ⟨by decide, by decide⟩ ?_
    refine rr_icmp_ne (tgt := 46) dX9_window_40 rfl (by decide) (fun hc40 => ?_) (fun hc40 => ?_)
    · have hh := hh.1 hc40
      refine rr_iload_n dX9_window_46 rfl rfl ?_
      refine rr_iconst dX9_window_47 rfl ⟨by decide, by decide⟩ ?_
      refine rr_iconst dX9_window_48 rfl ⟨by decide, by decide⟩ ?_
      refine rr_callS (bc' := 0) (bs' := 0) (av := [vI x3, vI 0, vI 1]) (st := []) mf_X9_within dX9_window_49 rfl q_196 q_197 rfl (by decide) (Nat.le_refl _) (Nat.le_refl _) hh (rr_kI fun n11 h10 hh => ?_)
      refine rr_if_ne (tgt := 58) dX9_window_52 rfl (by decide) (fun hc52 => ?_) (fun hc52 => ?_)
      · have hh := hh.1 hc52
        refine rr_iload_n dX9_window_58 rfl rfl ?_
        refine rr_if_ne (tgt := 67) dX9_window_59 rfl (by decide) (fun hc59 => ?_) (fun hc59 => ?_)
        · have hh := hh.1 hc59
          refine rr_aload_n dX9_window_67 rfl rfl ?_
          refine rr_getR cf_X9 (j := 4) (by decide) dX9_window_68 rfl q_174 hh (fun r12 hh => ?_)
          refine rr_iload_n dX9_window_71 rfl rfl ?_
          refine rr_callW (bc' := 0) (bs' := 0) (q := r12) (av := [vI x2]) (st := []) mf_X7_lastOf dX9_window_72 rfl q_653 q_591 q_592 ⟨_, _, rfl⟩ rfl (by decide) (Nat.le_refl _) (Nat.le_refl _) hh (rr_kI fun n14 h13 hh => ?_)
          exact rr_iret dX9_window_75 rfl hh
        · have hh := hh.2 hc59
          refine rr_iload dX9_window_62 rfl rfl ?_
          refine rr_goto (pc' := 75) dX9_window_64 (by decide) ?_
          exact rr_iret dX9_window_75 rfl hh
      · have hh := hh.2 hc52
        refine rr_bipush dX9_window_55 rfl ⟨by decide, by decide⟩ rfl ?_
        exact rr_iret dX9_window_57 rfl hh
    · have hh := hh.2 hc40
      refine rr_bipush dX9_window_43 rfl ⟨by decide, by decide⟩ rfl ?_
      exact rr_iret dX9_window_45 rfl hh
  · have hh := hh.2 hc12
    refine rr_bipush dX9_window_15 rfl ⟨by decide, by decide⟩ rfl ?_
    exact rr_iret dX9_window_17 rfl hh
theorem dX9_taken_0 : decode cX9_taken 0 = .ok (.aload_n 0, 1) := by decide +kernel
theorem dX9_taken_1 : decode cX9_taken 1 = .ok (.getfield 12, 3) := by decide +kernel
theorem dX9_taken_4 : decode cX9_taken 4 = .ok (.iload_n 1, 1) := by decide +kernel
theorem dX9_taken_5 : decode cX9_taken 5 = .ok (.invokevirtual 135, 3) := by decide +kernel
theorem dX9_taken_8 : decode cX9_taken 8 = .ok (.astore 4, 2) := by decide +kernel
theorem dX9_taken_10 : decode cX9_taken 10 = .ok (.aload 4, 2) := by decide +kernel
theorem dX9_taken_12 : decode cX9_taken 12 = .ok (.ifnonnull 6, 3) := by decide +kernel
theorem dX9_taken_15 : decode cX9_taken 15 = .ok (.bipush (-2), 2) := by decide +kernel
theorem dX9_taken_17 : decode cX9_taken 17 = .ok (.ireturn, 1) := by decide +kernel
theorem dX9_taken_18 : decode cX9_taken 18 = .ok (.iload_n 2, 1) := by decide +kernel
theorem dX9_taken_19 : decode cX9_taken 19 = .ok (.invokestatic 120, 3) := by decide +kernel
theorem dX9_taken_22 : decode cX9_taken 22 = .ok (.ifCond .ne 6, 3) := by decide +kernel
theorem dX9_taken_25 : decode cX9_taken 25 = .ok (.bipush (-3), 2) := by decide +kernel
theorem dX9_taken_27 : decode cX9_taken 27 = .ok (.ireturn, 1) := by decide +kernel
theorem dX9_taken_28 : decode cX9_taken 28 = .ok (.aload_n 0, 1) := by decide +kernel
theorem dX9_taken_29 : decode cX9_taken 29 = .ok (.getfield 12, 3) := by decide +kernel
theorem dX9_taken_32 : decode cX9_taken 32 = .ok (.aload 4, 2) := by decide +kernel
theorem dX9_taken_34 : decode cX9_taken 34 = .ok (.getfield 144, 3) := by decide +kernel
theorem dX9_taken_37 : decode cX9_taken 37 = .ok (.aload 4, 2) := by decide +kernel
theorem dX9_taken_39 : decode cX9_taken 39 = .ok (.getfield 195, 3) := by decide +kernel
theorem dX9_taken_42 : decode cX9_taken 42 = .ok (.aload 4, 2) := by decide +kernel
theorem dX9_taken_44 : decode cX9_taken 44 = .ok (.getfield 198, 3) := by decide +kernel
theorem dX9_taken_47 : decode cX9_taken 47 = .ok (.iload_n 2, 1) := by decide +kernel
theorem dX9_taken_48 : decode cX9_taken 48 = .ok (.invokevirtual 148, 3) := by decide +kernel
theorem dX9_taken_51 : decode cX9_taken 51 = .ok (.iload_n 3, 1) := by decide +kernel
theorem dX9_taken_52 : decode cX9_taken 52 = .ok (.invokestatic 239, 3) := by decide +kernel
theorem dX9_taken_55 : decode cX9_taken 55 = .ok (.ireturn, 1) := by decide +kernel
set_option maxRecDepth 100000 in
theorem B_X9_taken_0 {d : Nat} {h : AbH} {K : Option AbV → AbH → Prop} {x0 : Nat} {x1 : Int} {x2 : Int} {x3 : Int} (hh : wpGR h (some x0) 8 0 (fun r1 => wpCV h r1 7 (fun b15 => Vm d m_X8_loanAt [vR (some b15), vI x1] h (kR (fun r3 h2 => ((r3 ≠ none → Vm d m_X9_isDate [vI x2] h2 (kI (fun n5 h4 => ((n5 ≠ 0 → wpGR h4 (some x0) 8 0 (fun r6 => wpGL h4 r3 2 2 (fun n7 => wpGI h4 r3 2 0 (fun n8 => wpGI h4 r3 2 1 (fun n9 => wpCV h4 r6 7 (fun b14 => Vm d m_X8_borrowed [vR (some b14), vL n7, vI n8, vI n9, vI x2] h4 (kL (fun n11 h10 => Vm d m_X9_soundOrNumber [vL n11, vI x3] h10 (kI (fun n13 h12 => K (some (vI n13)) h12)))))))))) ∧ (¬ (n5 ≠ 0) → K (some (vI (-3))) h4))))) ∧ (¬ (r3 ≠ none) → K (some (vI (-2))) h2))))))) : Vx (d + 1) m_X9_taken 0 0 0 [some (vR (some x0)), some (vI x1), some (vI x2), some (vI x3)] [] h K := by
  refine Vx.pad 1 [some (vR (some x0)), some (vI x1), some (vI x2), some (vI x3), none] rfl ?_
  refine rr_aload_n dX9_taken_0 rfl rfl ?_
  refine rr_getR cf_X9 (j := 0) (by decide) dX9_taken_1 rfl q_170 hh (fun r1 hh => ?_)
  refine rr_iload_n dX9_taken_4 rfl rfl ?_
  refine rr_callW (bc' := 0) (bs' := 0) (q := r1) (av := [vI x1]) (st := []) mf_X8_loanAt dX9_taken_5 rfl q_502 q_503 q_504 ⟨_, _, rfl⟩ rfl (by decide) (Nat.le_refl _) (Nat.le_refl _) hh (rr_kR fun r3 h2 hh => ?_)
  refine rr_astore (ls' := [some (vR (some x0)), some (vI x1), some (vI x2), some (vI x3), some (vR r3)]) dX9_taken_8 rfl (by decide) (fun _ z => by cases z) rfl ?_
  refine rr_aload dX9_taken_10 rfl rfl ?_
  refine rr_ifnonnull (tgt := 18) dX9_taken_12 rfl (by decide) (fun hc12 => ?_) (fun hc12 => ?_)
  · have hh := hh.1 hc12
    refine rr_iload_n dX9_taken_18 rfl rfl ?_
    refine rr_callS (bc' := 0) (bs' := 0) (av := [vI x2]) (st := []) mf_X9_isDate dX9_taken_19 rfl q_482 q_483 rfl (by decide) (Nat.le_refl _) (Nat.le_refl _) hh (rr_kI fun n5 h4 hh => ?_)
    refine rr_if_ne (tgt := 28) dX9_taken_22 rfl (by decide) (fun hc22 => ?_) (fun hc22 => ?_)
    · have hh := hh.1 hc22
      refine rr_aload_n dX9_taken_28 rfl rfl ?_
      refine rr_getR cf_X9 (j := 0) (by decide) dX9_taken_29 rfl q_170 hh (fun r6 hh => ?_)
      refine rr_aload dX9_taken_32 rfl rfl ?_
      refine rr_getL cf_X3 (j := 2) (by decide) dX9_taken_34 rfl q_415 hh (fun n7 hh => ?_)
      refine rr_aload dX9_taken_37 rfl rfl ?_
      refine rr_getI cf_X3 (j := 0) (by decide) dX9_taken_39 rfl q_408 hh (fun n8 hh => ?_)
      refine rr_aload dX9_taken_42 rfl rfl ?_
      refine rr_getI cf_X3 (j := 1) (by decide) dX9_taken_44 rfl q_412 hh (fun n9 hh => ?_)
      refine rr_iload_n dX9_taken_47 rfl rfl ?_
      refine rr_callW (bc' := 0) (bs' := 0) (q := r6) (av := [vL n7, vI n8, vI n9, vI x2]) (st := []) mf_X8_borrowed dX9_taken_48 rfl q_507 q_508 q_509 ⟨_, _, rfl⟩ rfl (by decide) (Nat.le_refl _) (Nat.le_refl _) hh (rr_kL fun n11 h10 hh => ?_)
      refine rr_iload_n dX9_taken_51 rfl rfl ?_
      refine rr_callS (bc' := 0) (bs' := 0) (av := [vL n11, vI x3]) (st := []) mf_X9_soundOrNumber dX9_taken_52 rfl q_658 q_659 rfl (by decide) (Nat.le_refl _) (Nat.le_refl _) hh (rr_kI fun n13 h12 hh => ?_)
      exact rr_iret dX9_taken_55 rfl hh
    · have hh := hh.2 hc22
      refine rr_bipush dX9_taken_25 rfl ⟨by decide, by decide⟩ rfl ?_
      exact rr_iret dX9_taken_27 rfl hh
  · have hh := hh.2 hc12
    refine rr_bipush dX9_taken_15 rfl ⟨by decide, by decide⟩ rfl ?_
    exact rr_iret dX9_taken_17 rfl hh
theorem dX9_gone_0 : decode cX9_gone 0 = .ok (.aload_n 0, 1) := by decide +kernel
theorem dX9_gone_1 : decode cX9_gone 1 = .ok (.getfield 12, 3) := by decide +kernel
theorem dX9_gone_4 : decode cX9_gone 4 = .ok (.iload_n 1, 1) := by decide +kernel
theorem dX9_gone_5 : decode cX9_gone 5 = .ok (.invokevirtual 135, 3) := by decide +kernel
theorem dX9_gone_8 : decode cX9_gone 8 = .ok (.astore 6, 2) := by decide +kernel
theorem dX9_gone_10 : decode cX9_gone 10 = .ok (.aload 6, 2) := by decide +kernel
theorem dX9_gone_12 : decode cX9_gone 12 = .ok (.ifnull 10, 3) := by decide +kernel
theorem dX9_gone_15 : decode cX9_gone 15 = .ok (.iload_n 2, 1) := by decide +kernel
theorem dX9_gone_16 : decode cX9_gone 16 = .ok (.invokestatic 82, 3) := by decide +kernel
theorem dX9_gone_19 : decode cX9_gone 19 = .ok (.ifCond .ne 6, 3) := by decide +kernel
theorem dX9_gone_22 : decode cX9_gone 22 = .ok (.bipush (-2), 2) := by decide +kernel
theorem dX9_gone_24 : decode cX9_gone 24 = .ok (.ireturn, 1) := by decide +kernel
theorem dX9_gone_25 : decode cX9_gone 25 = .ok (.iload_n 3, 1) := by decide +kernel
theorem dX9_gone_26 : decode cX9_gone 26 = .ok (.invokestatic 120, 3) := by decide +kernel
theorem dX9_gone_29 : decode cX9_gone 29 = .ok (.ifCond .eq 11, 3) := by decide +kernel
theorem dX9_gone_32 : decode cX9_gone 32 = .ok (.iload 4, 2) := by decide +kernel
theorem dX9_gone_34 : decode cX9_gone 34 = .ok (.invokestatic 120, 3) := by decide +kernel
theorem dX9_gone_37 : decode cX9_gone 37 = .ok (.ifCond .ne 6, 3) := by decide +kernel
theorem dX9_gone_40 : decode cX9_gone 40 = .ok (.bipush (-3), 2) := by decide +kernel
theorem dX9_gone_42 : decode cX9_gone 42 = .ok (.ireturn, 1) := by decide +kernel
theorem dX9_gone_43 : decode cX9_gone 43 = .ok (.aload_n 0, 1) := by decide +kernel
theorem dX9_gone_44 : decode cX9_gone 44 = .ok (.getfield 12, 3) := by decide +kernel
theorem dX9_gone_47 : decode cX9_gone 47 = .ok (.aload 6, 2) := by decide +kernel
theorem dX9_gone_49 : decode cX9_gone 49 = .ok (.getfield 144, 3) := by decide +kernel
theorem dX9_gone_52 : decode cX9_gone 52 = .ok (.iload_n 2, 1) := by decide +kernel
theorem dX9_gone_53 : decode cX9_gone 53 = .ok (.iload_n 3, 1) := by decide +kernel
theorem dX9_gone_54 : decode cX9_gone 54 = .ok (.iload 4, 2) := by decide +kernel
theorem dX9_gone_56 : decode cX9_gone 56 = .ok (.invokevirtual 242, 3) := by decide +kernel
theorem dX9_gone_59 : decode cX9_gone 59 = .ok (.iload 5, 2) := by decide +kernel
theorem dX9_gone_61 : decode cX9_gone 61 = .ok (.invokestatic 239, 3) := by decide +kernel
theorem dX9_gone_64 : decode cX9_gone 64 = .ok (.ireturn, 1) := by decide +kernel
set_option maxRecDepth 100000 in
theorem B_X9_gone_0 {d : Nat} {h : AbH} {K : Option AbV → AbH → Prop} {x0 : Nat} {x1 : Int} {x2 : Int} {x3 : Int} {x4 : Int} {x5 : Int} (hh : wpGR h (some x0) 8 0 (fun r1 => wpCV h r1 7 (fun b17 => Vm d m_X8_loanAt [vR (some b17), vI x1] h (kR (fun r3 h2 => ((r3 = none → K (some (vI (-2))) h2) ∧ (¬ (r3 = none) → Vm d m_X9_isTongue [vI x2] h2 (kI (fun n5 h4 => ((n5 ≠ 0 → Vm d m_X9_isDate [vI x3] h4 (kI (fun n7 h6 => ((n7 = 0 → K (some (vI (-3))) h6) ∧ (¬ (n7 = 0) → Vm d m_X9_isDate [vI x4] h6 (kI (fun n9 h8 => ((n9 ≠ 0 → wpGR h8 (some x0) 8 0 (fun r10 => wpGL h8 r3 2 2 (fun n11 => wpCV h8 r10 7 (fun b16 => Vm d m_X8_developed [vR (some b16), vL n11, vI x2, vI x3, vI x4] h8 (kL (fun n13 h12 => Vm d m_X9_soundOrNumber [vL n13, vI x5] h12 (kI (fun n15 h14 => K (some (vI n15)) h14)))))))) ∧ (¬ (n9 ≠ 0) → K (some (vI (-3))) h8))))))))) ∧ (¬ (n5 ≠ 0) → K (some (vI (-2))) h4))))))))))) : Vx (d + 1) m_X9_gone 0 0 0 [some (vR (some x0)), some (vI x1), some (vI x2), some (vI x3), some (vI x4), some (vI x5)] [] h K := by
  refine Vx.pad 1 [some (vR (some x0)), some (vI x1), some (vI x2), some (vI x3), some (vI x4), some (vI x5), none] rfl ?_
  refine rr_aload_n dX9_gone_0 rfl rfl ?_
  refine rr_getR cf_X9 (j := 0) (by decide) dX9_gone_1 rfl q_170 hh (fun r1 hh => ?_)
  refine rr_iload_n dX9_gone_4 rfl rfl ?_
  refine rr_callW (bc' := 0) (bs' := 0) (q := r1) (av := [vI x1]) (st := []) mf_X8_loanAt dX9_gone_5 rfl q_502 q_503 q_504 ⟨_, _, rfl⟩ rfl (by decide) (Nat.le_refl _) (Nat.le_refl _) hh (rr_kR fun r3 h2 hh => ?_)
  refine rr_astore (ls' := [some (vR (some x0)), some (vI x1), some (vI x2), some (vI x3), some (vI x4), some (vI x5), some (vR r3)]) dX9_gone_8 rfl (by decide) (fun _ z => by cases z) rfl ?_
  refine rr_aload dX9_gone_10 rfl rfl ?_
  refine rr_ifnull (tgt := 22) dX9_gone_12 rfl (by decide) (fun hc12 => ?_) (fun hc12 => ?_)
  · have hh := hh.1 hc12
    refine rr_bipush dX9_gone_22 rfl ⟨by decide, by decide⟩ rfl ?_
    exact rr_iret dX9_gone_24 rfl hh
  · have hh := hh.2 hc12
    refine rr_iload_n dX9_gone_15 rfl rfl ?_
    refine rr_callS (bc' := 0) (bs' := 0) (av := [vI x2]) (st := []) mf_X9_isTongue dX9_gone_16 rfl q_383 q_384 rfl (by decide) (Nat.le_refl _) (Nat.le_refl _) hh (rr_kI fun n5 h4 hh => ?_)
    refine rr_if_ne (tgt := 25) dX9_gone_19 rfl (by decide) (fun hc19 => ?_) (fun hc19 => ?_)
    · have hh := hh.1 hc19
      refine rr_iload_n dX9_gone_25 rfl rfl ?_
      refine rr_callS (bc' := 0) (bs' := 0) (av := [vI x3]) (st := []) mf_X9_isDate dX9_gone_26 rfl q_482 q_483 rfl (by decide) (Nat.le_refl _) (Nat.le_refl _) hh (rr_kI fun n7 h6 hh => ?_)
      refine rr_if_eq (tgt := 40) dX9_gone_29 rfl (by decide) (fun hc29 => ?_) (fun hc29 => ?_)
      · have hh := hh.1 hc29
        refine rr_bipush dX9_gone_40 rfl ⟨by decide, by decide⟩ rfl ?_
        exact rr_iret dX9_gone_42 rfl hh
      · have hh := hh.2 hc29
        refine rr_iload dX9_gone_32 rfl rfl ?_
        refine rr_callS (bc' := 0) (bs' := 0) (av := [vI x4]) (st := []) mf_X9_isDate dX9_gone_34 rfl q_482 q_483 rfl (by decide) (Nat.le_refl _) (Nat.le_refl _) hh (rr_kI fun n9 h8 hh => ?_)
        refine rr_if_ne (tgt := 43) dX9_gone_37 rfl (by decide) (fun hc37 => ?_) (fun hc37 => ?_)
        · have hh := hh.1 hc37
          refine rr_aload_n dX9_gone_43 rfl rfl ?_
          refine rr_getR cf_X9 (j := 0) (by decide) dX9_gone_44 rfl q_170 hh (fun r10 hh => ?_)
          refine rr_aload dX9_gone_47 rfl rfl ?_
          refine rr_getL cf_X3 (j := 2) (by decide) dX9_gone_49 rfl q_415 hh (fun n11 hh => ?_)
          refine rr_iload_n dX9_gone_52 rfl rfl ?_
          refine rr_iload_n dX9_gone_53 rfl rfl ?_
          refine rr_iload dX9_gone_54 rfl rfl ?_
          refine rr_callW (bc' := 0) (bs' := 0) (q := r10) (av := [vL n11, vI x2, vI x3, vI x4]) (st := []) mf_X8_developed dX9_gone_56 rfl q_665 q_512 q_513 ⟨_, _, rfl⟩ rfl (by decide) (Nat.le_refl _) (Nat.le_refl _) hh (rr_kL fun n13 h12 hh => ?_)
          refine rr_iload dX9_gone_59 rfl rfl ?_
          refine rr_callS (bc' := 0) (bs' := 0) (av := [vL n13, vI x5]) (st := []) mf_X9_soundOrNumber dX9_gone_61 rfl q_658 q_659 rfl (by decide) (Nat.le_refl _) (Nat.le_refl _) hh (rr_kI fun n15 h14 hh => ?_)
          exact rr_iret dX9_gone_64 rfl hh
        · have hh := hh.2 hc37
          refine rr_bipush dX9_gone_40 rfl ⟨by decide, by decide⟩ rfl ?_
          exact rr_iret dX9_gone_42 rfl hh
    · have hh := hh.2 hc19
      refine rr_bipush dX9_gone_22 rfl ⟨by decide, by decide⟩ rfl ?_
      exact rr_iret dX9_gone_24 rfl hh
theorem dX9_did_0 : decode cX9_did 0 = .ok (.aload_n 0, 1) := by decide +kernel
theorem dX9_did_1 : decode cX9_did 1 = .ok (.getfield 12, 3) := by decide +kernel
theorem dX9_did_4 : decode cX9_did 4 = .ok (.iload_n 1, 1) := by decide +kernel
theorem dX9_did_5 : decode cX9_did 5 = .ok (.invokevirtual 135, 3) := by decide +kernel
theorem dX9_did_8 : decode cX9_did 8 = .ok (.astore 4, 2) := by decide +kernel
theorem dX9_did_10 : decode cX9_did 10 = .ok (.aload_n 0, 1) := by decide +kernel
theorem dX9_did_11 : decode cX9_did 11 = .ok (.getfield 12, 3) := by decide +kernel
theorem dX9_did_14 : decode cX9_did 14 = .ok (.iload_n 2, 1) := by decide +kernel
theorem dX9_did_15 : decode cX9_did 15 = .ok (.invokevirtual 109, 3) := by decide +kernel
theorem dX9_did_18 : decode cX9_did 18 = .ok (.astore 5, 2) := by decide +kernel
theorem dX9_did_20 : decode cX9_did 20 = .ok (.aload 4, 2) := by decide +kernel
theorem dX9_did_22 : decode cX9_did 22 = .ok (.ifnull 21, 3) := by decide +kernel
theorem dX9_did_25 : decode cX9_did 25 = .ok (.aload 5, 2) := by decide +kernel
theorem dX9_did_27 : decode cX9_did 27 = .ok (.ifnull 16, 3) := by decide +kernel
theorem dX9_did_30 : decode cX9_did 30 = .ok (.aload 5, 2) := by decide +kernel
theorem dX9_did_32 : decode cX9_did 32 = .ok (.getfield 174, 3) := by decide +kernel
theorem dX9_did_35 : decode cX9_did 35 = .ok (.aload 4, 2) := by decide +kernel
theorem dX9_did_37 : decode cX9_did 37 = .ok (.getfield 198, 3) := by decide +kernel
theorem dX9_did_40 : decode cX9_did 40 = .ok (.if_icmp .eq 6, 3) := by decide +kernel
theorem dX9_did_43 : decode cX9_did 43 = .ok (.bipush (-2), 2) := by decide +kernel
theorem dX9_did_45 : decode cX9_did 45 = .ok (.ireturn, 1) := by decide +kernel
theorem dX9_did_46 : decode cX9_did 46 = .ok (.iload_n 3, 1) := by decide +kernel
theorem dX9_did_47 : decode cX9_did 47 = .ok (.invokestatic 120, 3) := by decide +kernel
theorem dX9_did_50 : decode cX9_did 50 = .ok (.ifCond .ne 6, 3) := by decide +kernel
theorem dX9_did_53 : decode cX9_did 53 = .ok (.bipush (-3), 2) := by decide +kernel
theorem dX9_did_55 : decode cX9_did 55 = .ok (.ireturn, 1) := by decide +kernel
theorem dX9_did_56 : decode cX9_did 56 = .ok (.aload_n 0, 1) := by decide +kernel
theorem dX9_did_57 : decode cX9_did 57 = .ok (.getfield 12, 3) := by decide +kernel
theorem dX9_did_60 : decode cX9_did 60 = .ok (.aload 4, 2) := by decide +kernel
theorem dX9_did_62 : decode cX9_did 62 = .ok (.getfield 144, 3) := by decide +kernel
theorem dX9_did_65 : decode cX9_did 65 = .ok (.aload 4, 2) := by decide +kernel
theorem dX9_did_67 : decode cX9_did 67 = .ok (.getfield 195, 3) := by decide +kernel
theorem dX9_did_70 : decode cX9_did 70 = .ok (.iconst 0, 1) := by decide +kernel
theorem dX9_did_71 : decode cX9_did 71 = .ok (.iload_n 3, 1) := by decide +kernel
theorem dX9_did_72 : decode cX9_did 72 = .ok (.invokevirtual 242, 3) := by decide +kernel
theorem dX9_did_75 : decode cX9_did 75 = .ok (.lstore 6, 2) := by decide +kernel
theorem dX9_did_77 : decode cX9_did 77 = .ok (.aload 5, 2) := by decide +kernel
theorem dX9_did_79 : decode cX9_did 79 = .ok (.getfield 177, 3) := by decide +kernel
theorem dX9_did_82 : decode cX9_did 82 = .ok (.iload_n 3, 1) := by decide +kernel
theorem dX9_did_83 : decode cX9_did 83 = .ok (.if_icmp .gt 19, 3) := by decide +kernel
theorem dX9_did_86 : decode cX9_did 86 = .ok (.aload 5, 2) := by decide +kernel
theorem dX9_did_88 : decode cX9_did 88 = .ok (.lload 6, 2) := by decide +kernel
theorem dX9_did_90 : decode cX9_did 90 = .ok (.invokevirtual 245, 3) := by decide +kernel
theorem dX9_did_93 : decode cX9_did 93 = .ok (.ifCond .eq 7, 3) := by decide +kernel
theorem dX9_did_96 : decode cX9_did 96 = .ok (.iconst 2, 1) := by decide +kernel
theorem dX9_did_97 : decode cX9_did 97 = .ok (.goto 4, 3) := by decide +kernel
theorem dX9_did_100 : decode cX9_did 100 = .ok (.iconst 0, 1) := by decide +kernel
theorem dX9_did_101 : decode cX9_did 101 = .ok (.ireturn, 1) := by decide +kernel
theorem dX9_did_102 : decode cX9_did 102 = .ok (.aload 5, 2) := by decide +kernel
theorem dX9_did_104 : decode cX9_did 104 = .ok (.aload_n 0, 1) := by decide +kernel
theorem dX9_did_105 : decode cX9_did 105 = .ok (.getfield 12, 3) := by decide +kernel
theorem dX9_did_108 : decode cX9_did 108 = .ok (.lload 6, 2) := by decide +kernel
theorem dX9_did_110 : decode cX9_did 110 = .ok (.aload 4, 2) := by decide +kernel
theorem dX9_did_112 : decode cX9_did 112 = .ok (.getfield 198, 3) := by decide +kernel
theorem dX9_did_115 : decode cX9_did 115 = .ok (.iload_n 3, 1) := by decide +kernel
theorem dX9_did_116 : decode cX9_did 116 = .ok (.aload 5, 2) := by decide +kernel
theorem dX9_did_118 : decode cX9_did 118 = .ok (.getfield 177, 3) := by decide +kernel
theorem dX9_did_121 : decode cX9_did 121 = .ok (.iconst 1, 1) := by decide +kernel
theorem dX9_did_122 : decode cX9_did 122 = .ok (.isub, 1) := by decide +kernel
theorem dX9_did_123 : decode cX9_did 123 = .ok (.invokevirtual 242, 3) := by decide +kernel
theorem dX9_did_126 : decode cX9_did 126 = .ok (.invokevirtual 245, 3) := by decide +kernel
theorem dX9_did_129 : decode cX9_did 129 = .ok (.ifCond .eq 7, 3) := by decide +kernel
theorem dX9_did_132 : decode cX9_did 132 = .ok (.iconst 1, 1) := by decide +kernel
theorem dX9_did_133 : decode cX9_did 133 = .ok (.goto 4, 3) := by decide +kernel
theorem dX9_did_136 : decode cX9_did 136 = .ok (.iconst 0, 1) := by decide +kernel
theorem dX9_did_137 : decode cX9_did 137 = .ok (.ireturn, 1) := by decide +kernel
set_option maxRecDepth 100000 in
theorem B_X9_did_0 {d : Nat} {h : AbH} {K : Option AbV → AbH → Prop} {x0 : Nat} {x1 : Int} {x2 : Int} {x3 : Int} (hh : wpGR h (some x0) 8 0 (fun r1 => wpCV h r1 7 (fun b32 => Vm d m_X8_loanAt [vR (some b32), vI x1] h (kR (fun r3 h2 => wpGR h2 (some x0) 8 0 (fun r4 => wpCV h2 r4 7 (fun b31 => Vm d m_X8_lawAt [vR (some b31), vI x2] h2 (kR (fun r6 h5 => ((r3 = none → K (some (vI (-2))) h5) ∧ (¬ (r3 = none) → ((r6 = none → K (some (vI (-2))) h5) ∧ (¬ (r6 = none) → wpGI h5 r6 0 0 (fun n7 => wpGI h5 r3 2 1 (fun n8 => ((n7 = n8 → Vm d m_X9_isDate [vI x3] h5 (kI (fun n10 h9 => ((n10 ≠ 0 → wpGR h9 (some x0) 8 0 (fun r11 => wpGL h9 r3 2 2 (fun n12 => wpGI h9 r3 2 0 (fun n13 => wpCV h9 r11 7 (fun b30 => Vm d m_X8_developed [vR (some b30), vL n12, vI n13, vI 0, vI x3] h9 (kL (fun n15 h14 => wpGI h14 r6 0 1 (fun n16 => ((x3 < n16 → wpGR h14 (some x0) 8 0 (fun r17 => wpGI h14 r3 2 1 (fun n18 => wpGI h14 r6 0 1 (fun n19 => in32 (n19 - 1) ∧ wpCV h14 r17 7 (fun b26 => Vm d m_X8_developed [vR (some b26), vL n15, vI n18, vI x3, vI (n19 - 1)] h14 (kL (fun n22 h21 => wpCV h21 r6 0 (fun b25 => Vm d m_X1_affects [vR (some b25), vL n22] h21 (kI (fun n24 h23 => ((n24 = 0 → K (some (vI 0)) h23) ∧ (¬ (n24 = 0) → K (some (vI 1)) h23)))))))))))) ∧ (¬ (x3 < n16) → wpCV h14 r6 0 (fun b29 => Vm d m_X1_affects [vR (some b29), vL n15] h14 (kI (fun n28 h27 => ((n28 = 0 → K (some (vI 0)) h27) ∧ (¬ (n28 = 0) → K (some (vI 2)) h27))))))))))))))) ∧ (¬ (n10 ≠ 0) → K (some (vI (-3))) h9))))) ∧ (¬ (n7 = n8) → K (some (vI (-2))) h5))))))))))))))))) : Vx (d + 1) m_X9_did 0 0 0 [some (vR (some x0)), some (vI x1), some (vI x2), some (vI x3)] [] h K := by
  refine Vx.pad 4 [some (vR (some x0)), some (vI x1), some (vI x2), some (vI x3), none, none, none, none] rfl ?_
  refine rr_aload_n dX9_did_0 rfl rfl ?_
  refine rr_getR cf_X9 (j := 0) (by decide) dX9_did_1 rfl q_170 hh (fun r1 hh => ?_)
  refine rr_iload_n dX9_did_4 rfl rfl ?_
  refine rr_callW (bc' := 0) (bs' := 0) (q := r1) (av := [vI x1]) (st := []) mf_X8_loanAt dX9_did_5 rfl q_502 q_503 q_504 ⟨_, _, rfl⟩ rfl (by decide) (Nat.le_refl _) (Nat.le_refl _) hh (rr_kR fun r3 h2 hh => ?_)
  refine rr_astore (ls' := [some (vR (some x0)), some (vI x1), some (vI x2), some (vI x3), some (vR r3), none, none, none]) dX9_did_8 rfl (by decide) (fun _ z => by cases z) rfl ?_
  refine rr_aload_n dX9_did_10 rfl rfl ?_
  refine rr_getR cf_X9 (j := 0) (by decide) dX9_did_11 rfl q_170 hh (fun r4 hh => ?_)
  refine rr_iload_n dX9_did_14 rfl rfl ?_
  refine rr_callW (bc' := 0) (bs' := 0) (q := r4) (av := [vI x2]) (st := []) mf_X8_lawAt dX9_did_15 rfl q_468 q_469 q_470 ⟨_, _, rfl⟩ rfl (by decide) (Nat.le_refl _) (Nat.le_refl _) hh (rr_kR fun r6 h5 hh => ?_)
  refine rr_astore (ls' := [some (vR (some x0)), some (vI x1), some (vI x2), some (vI x3), some (vR r3), some (vR r6), none, none]) dX9_did_18 rfl (by decide) (fun _ z => by cases z) rfl ?_
  refine rr_aload dX9_did_20 rfl rfl ?_
  refine rr_ifnull (tgt := 43) dX9_did_22 rfl (by decide) (fun hc22 => ?_) (fun hc22 => ?_)
  · have hh := hh.1 hc22
    refine rr_bipush dX9_did_43 rfl ⟨by decide, by decide⟩ rfl ?_
    exact rr_iret dX9_did_45 rfl hh
  · have hh := hh.2 hc22
    refine rr_aload dX9_did_25 rfl rfl ?_
    refine rr_ifnull (tgt := 43) dX9_did_27 rfl (by decide) (fun hc27 => ?_) (fun hc27 => ?_)
    · have hh := hh.1 hc27
      refine rr_bipush dX9_did_43 rfl ⟨by decide, by decide⟩ rfl ?_
      exact rr_iret dX9_did_45 rfl hh
    · have hh := hh.2 hc27
      refine rr_aload dX9_did_30 rfl rfl ?_
      refine rr_getI cf_X1 (j := 0) (by decide) dX9_did_32 rfl q_335 hh (fun n7 hh => ?_)
      refine rr_aload dX9_did_35 rfl rfl ?_
      refine rr_getI cf_X3 (j := 1) (by decide) dX9_did_37 rfl q_412 hh (fun n8 hh => ?_)
      refine rr_icmp_eq (tgt := 46) dX9_did_40 rfl (by decide) (fun hc40 => ?_) (fun hc40 => ?_)
      · have hh := hh.1 hc40
        refine rr_iload_n dX9_did_46 rfl rfl ?_
        refine rr_callS (bc' := 0) (bs' := 0) (av := [vI x3]) (st := []) mf_X9_isDate dX9_did_47 rfl q_482 q_483 rfl (by decide) (Nat.le_refl _) (Nat.le_refl _) hh (rr_kI fun n10 h9 hh => ?_)
        refine rr_if_ne (tgt := 56) dX9_did_50 rfl (by decide) (fun hc50 => ?_) (fun hc50 => ?_)
        · have hh := hh.1 hc50
          refine rr_aload_n dX9_did_56 rfl rfl ?_
          refine rr_getR cf_X9 (j := 0) (by decide) dX9_did_57 rfl q_170 hh (fun r11 hh => ?_)
          refine rr_aload dX9_did_60 rfl rfl ?_
          refine rr_getL cf_X3 (j := 2) (by decide) dX9_did_62 rfl q_415 hh (fun n12 hh => ?_)
          refine rr_aload dX9_did_65 rfl rfl ?_
          refine rr_getI cf_X3 (j := 0) (by decide) dX9_did_67 rfl q_408 hh (fun n13 hh => ?_)
          refine rr_iconst dX9_did_70 rfl ⟨by decide, by decide⟩ ?_
          refine rr_iload_n dX9_did_71 rfl rfl ?_
          refine rr_callW (bc' := 0) (bs' := 0) (q := r11) (av := [vL n12, vI n13, vI 0, vI x3]) (st := []) mf_X8_developed dX9_did_72 rfl q_665 q_512 q_513 ⟨_, _, rfl⟩ rfl (by decide) (Nat.le_refl _) (Nat.le_refl _) hh (rr_kL fun n15 h14 hh => ?_)
          refine rr_lstore (ls' := [some (vR (some x0)), some (vI x1), some (vI x2), some (vI x3), some (vR r3), some (vR r6), some (vL n15), none]) dX9_did_75 rfl (by decide) (fun _ z => by cases z) rfl ?_
          refine rr_aload dX9_did_77 rfl rfl ?_
          refine rr_getI cf_X1 (j := 1) (by decide) dX9_did_79 rfl q_340 hh (fun n16 hh => ?_)
          refine rr_iload_n dX9_did_82 rfl rfl ?_
          refine rr_icmp_gt (tgt := 102) dX9_did_83 rfl (by decide) (fun hc83 => ?_) (fun hc83 => ?_)
          · have hh := hh.1 hc83
            refine rr_aload dX9_did_102 rfl rfl ?_
            refine rr_aload_n dX9_did_104 rfl rfl ?_
            refine rr_getR cf_X9 (j := 0) (by decide) dX9_did_105 rfl q_170 hh (fun r17 hh => ?_)
            refine rr_lload dX9_did_108 rfl rfl ?_
            refine rr_aload dX9_did_110 rfl rfl ?_
            refine rr_getI cf_X3 (j := 1) (by decide) dX9_did_112 rfl q_412 hh (fun n18 hh => ?_)
            refine rr_iload_n dX9_did_115 rfl rfl ?_
            refine rr_aload dX9_did_116 rfl rfl ?_
            refine rr_getI cf_X1 (j := 1) (by decide) dX9_did_118 rfl q_340 hh (fun n19 hh => ?_)
            refine rr_iconst dX9_did_121 rfl ⟨by decide, by decide⟩ ?_
            obtain ⟨hz20, hh⟩ := hh
            refine rr_isub dX9_did_122 rfl hz20 ?_
            refine rr_callW (bc' := 0) (bs' := 0) (q := r17) (av := [vL n15, vI n18, vI x3, vI (n19 - 1)]) (st := [vR r6]) mf_X8_developed dX9_did_123 rfl q_665 q_512 q_513 ⟨_, _, rfl⟩ rfl (cs_le _ (Nat.le_of_ble_eq_true rfl)) (Nat.le_refl _) (Nat.le_refl _) hh (rr_kL fun n22 h21 hh => ?_)
            refine rr_callW (bc' := 0) (bs' := 0) (q := r6) (av := [vL n22]) (st := []) mf_X1_affects dX9_did_126 rfl q_670 q_671 q_672 ⟨_, _, rfl⟩ rfl (by decide) (Nat.le_refl _) (Nat.le_refl _) hh (rr_kI fun n24 h23 hh => ?_)
            refine rr_if_eq (tgt := 136) dX9_did_129 rfl (by decide) (fun hc129 => ?_) (fun hc129 => ?_)
            · have hh := hh.1 hc129
              refine rr_iconst dX9_did_136 rfl ⟨by decide, by decide⟩ ?_
              exact rr_iret dX9_did_137 rfl hh
            · have hh := hh.2 hc129
              refine rr_iconst dX9_did_132 rfl ⟨by decide, by decide⟩ ?_
              refine rr_goto (pc' := 137) dX9_did_133 (by decide) ?_
              exact rr_iret dX9_did_137 rfl hh
          · have hh := hh.2 hc83
            refine rr_aload dX9_did_86 rfl rfl ?_
            refine rr_lload dX9_did_88 rfl rfl ?_
            refine rr_callW (bc' := 0) (bs' := 0) (q := r6) (av := [vL n15]) (st := []) mf_X1_affects dX9_did_90 rfl q_670 q_671 q_672 ⟨_, _, rfl⟩ rfl (by decide) (Nat.le_refl _) (Nat.le_refl _) hh (rr_kI fun n28 h27 hh => ?_)
            refine rr_if_eq (tgt := 100) dX9_did_93 rfl (by decide) (fun hc93 => ?_) (fun hc93 => ?_)
            · have hh := hh.1 hc93
              refine rr_iconst dX9_did_100 rfl ⟨by decide, by decide⟩ ?_
              exact rr_iret dX9_did_101 rfl hh
            · have hh := hh.2 hc93
              refine rr_iconst dX9_did_96 rfl ⟨by decide, by decide⟩ ?_
              refine rr_goto (pc' := 101) dX9_did_97 (by decide) ?_
              exact rr_iret dX9_did_101 rfl hh
        · have hh := hh.2 hc50
          refine rr_bipush dX9_did_53 rfl ⟨by decide, by decide⟩ rfl ?_
          exact rr_iret dX9_did_55 rfl hh
      · have hh := hh.2 hc40
        refine rr_bipush dX9_did_43 rfl ⟨by decide, by decide⟩ rfl ?_
        exact rr_iret dX9_did_45 rfl hh
theorem dX9_older_0 : decode cX9_older 0 = .ok (.aload_n 0, 1) := by decide +kernel
theorem dX9_older_1 : decode cX9_older 1 = .ok (.getfield 12, 3) := by decide +kernel
theorem dX9_older_4 : decode cX9_older 4 = .ok (.iload_n 1, 1) := by decide +kernel
theorem dX9_older_5 : decode cX9_older 5 = .ok (.invokevirtual 135, 3) := by decide +kernel
theorem dX9_older_8 : decode cX9_older 8 = .ok (.ifnull 14, 3) := by decide +kernel
theorem dX9_older_11 : decode cX9_older 11 = .ok (.aload_n 0, 1) := by decide +kernel
theorem dX9_older_12 : decode cX9_older 12 = .ok (.getfield 12, 3) := by decide +kernel
theorem dX9_older_15 : decode cX9_older 15 = .ok (.iload_n 2, 1) := by decide +kernel
theorem dX9_older_16 : decode cX9_older 16 = .ok (.invokevirtual 135, 3) := by decide +kernel
theorem dX9_older_19 : decode cX9_older 19 = .ok (.ifnonnull 6, 3) := by decide +kernel
theorem dX9_older_22 : decode cX9_older 22 = .ok (.bipush (-2), 2) := by decide +kernel
theorem dX9_older_24 : decode cX9_older 24 = .ok (.ireturn, 1) := by decide +kernel
theorem dX9_older_25 : decode cX9_older 25 = .ok (.aload_n 0, 1) := by decide +kernel
theorem dX9_older_26 : decode cX9_older 26 = .ok (.getfield 44, 3) := by decide +kernel
theorem dX9_older_29 : decode cX9_older 29 = .ok (.aload_n 0, 1) := by decide +kernel
theorem dX9_older_30 : decode cX9_older 30 = .ok (.getfield 12, 3) := by decide +kernel
theorem dX9_older_33 : decode cX9_older 33 = .ok (.aload_n 0, 1) := by decide +kernel
theorem dX9_older_34 : decode cX9_older 34 = .ok (.getfield 37, 3) := by decide +kernel
theorem dX9_older_37 : decode cX9_older 37 = .ok (.invokevirtual 224, 3) := by decide +kernel
theorem dX9_older_40 : decode cX9_older 40 = .ok (.iload_n 1, 1) := by decide +kernel
theorem dX9_older_41 : decode cX9_older 41 = .ok (.iload_n 2, 1) := by decide +kernel
theorem dX9_older_42 : decode cX9_older 42 = .ok (.invokevirtual 249, 3) := by decide +kernel
theorem dX9_older_45 : decode cX9_older 45 = .ok (.ifCond .eq 7, 3) := by decide +kernel
theorem dX9_older_48 : decode cX9_older 48 = .ok (.iconst 1, 1) := by decide +kernel
theorem dX9_older_49 : decode cX9_older 49 = .ok (.goto 4, 3) := by decide +kernel
theorem dX9_older_52 : decode cX9_older 52 = .ok (.iconst 0, 1) := by decide +kernel
theorem dX9_older_53 : decode cX9_older 53 = .ok (.ireturn, 1) := by decide +kernel
set_option maxRecDepth 100000 in
theorem B_X9_older_0 {d : Nat} {h : AbH} {K : Option AbV → AbH → Prop} {x0 : Nat} {x1 : Int} {x2 : Int} (hh : wpGR h (some x0) 8 0 (fun r1 => wpCV h r1 7 (fun b17 => Vm d m_X8_loanAt [vR (some b17), vI x1] h (kR (fun r3 h2 => ((r3 = none → K (some (vI (-2))) h2) ∧ (¬ (r3 = none) → wpGR h2 (some x0) 8 0 (fun r4 => wpCV h2 r4 7 (fun b16 => Vm d m_X8_loanAt [vR (some b16), vI x2] h2 (kR (fun r6 h5 => ((r6 ≠ none → wpGR h5 (some x0) 8 5 (fun r7 => wpGR h5 (some x0) 8 0 (fun r8 => wpGR h5 (some x0) 8 4 (fun r9 => wpCV h5 r7 1 (fun b15 => Vm d m_X2_of [vR (some b15), vR r8, vR r9] h5 (kR (fun r11 h10 => wpCV h10 r11 1 (fun b14 => Vm d m_X2_isOlder [vR (some b14), vI x1, vI x2] h10 (kI (fun n13 h12 => ((n13 = 0 → K (some (vI 0)) h12) ∧ (¬ (n13 = 0) → K (some (vI 1)) h12)))))))))))) ∧ (¬ (r6 ≠ none) → K (some (vI (-2))) h5))))))))))))) : Vx (d + 1) m_X9_older 0 0 0 [some (vR (some x0)), some (vI x1), some (vI x2)] [] h K := by
  refine rr_aload_n dX9_older_0 rfl rfl ?_
  refine rr_getR cf_X9 (j := 0) (by decide) dX9_older_1 rfl q_170 hh (fun r1 hh => ?_)
  refine rr_iload_n dX9_older_4 rfl rfl ?_
  refine rr_callW (bc' := 0) (bs' := 0) (q := r1) (av := [vI x1]) (st := []) mf_X8_loanAt dX9_older_5 rfl q_502 q_503 q_504 ⟨_, _, rfl⟩ rfl (by decide) (Nat.le_refl _) (Nat.le_refl _) hh (rr_kR fun r3 h2 hh => ?_)
  refine rr_ifnull (tgt := 22) dX9_older_8 rfl (by decide) (fun hc8 => ?_) (fun hc8 => ?_)
  · have hh := hh.1 hc8
    refine rr_bipush dX9_older_22 rfl ⟨by decide, by decide⟩ rfl ?_
    exact rr_iret dX9_older_24 rfl hh
  · have hh := hh.2 hc8
    refine rr_aload_n dX9_older_11 rfl rfl ?_
    refine rr_getR cf_X9 (j := 0) (by decide) dX9_older_12 rfl q_170 hh (fun r4 hh => ?_)
    refine rr_iload_n dX9_older_15 rfl rfl ?_
    refine rr_callW (bc' := 0) (bs' := 0) (q := r4) (av := [vI x2]) (st := []) mf_X8_loanAt dX9_older_16 rfl q_502 q_503 q_504 ⟨_, _, rfl⟩ rfl (by decide) (Nat.le_refl _) (Nat.le_refl _) hh (rr_kR fun r6 h5 hh => ?_)
    refine rr_ifnonnull (tgt := 25) dX9_older_19 rfl (by decide) (fun hc19 => ?_) (fun hc19 => ?_)
    · have hh := hh.1 hc19
      refine rr_aload_n dX9_older_25 rfl rfl ?_
      refine rr_getR cf_X9 (j := 5) (by decide) dX9_older_26 rfl q_175 hh (fun r7 hh => ?_)
      refine rr_aload_n dX9_older_29 rfl rfl ?_
      refine rr_getR cf_X9 (j := 0) (by decide) dX9_older_30 rfl q_170 hh (fun r8 hh => ?_)
      refine rr_aload_n dX9_older_33 rfl rfl ?_
      refine rr_getR cf_X9 (j := 4) (by decide) dX9_older_34 rfl q_174 hh (fun r9 hh => ?_)
      refine rr_callW (bc' := 0) (bs' := 0) (q := r7) (av := [vR r8, vR r9]) (st := []) mf_X2_of dX9_older_37 rfl q_611 q_612 q_613 ⟨_, _, rfl⟩ rfl (by decide) (Nat.le_refl _) (Nat.le_refl _) hh (rr_kR fun r11 h10 hh => ?_)
      refine rr_iload_n dX9_older_40 rfl rfl ?_
      refine rr_iload_n dX9_older_41 rfl rfl ?_
      refine rr_callW (bc' := 0) (bs' := 0) (q := r11) (av := [vI x1, vI x2]) (st := []) mf_X2_isOlder dX9_older_42 rfl q_679 q_628 q_629 ⟨_, _, rfl⟩ rfl (by decide) (Nat.le_refl _) (Nat.le_refl _) hh (rr_kI fun n13 h12 hh => ?_)
      refine rr_if_eq (tgt := 52) dX9_older_45 rfl (by decide) (fun hc45 => ?_) (fun hc45 => ?_)
      · have hh := hh.1 hc45
        refine rr_iconst dX9_older_52 rfl ⟨by decide, by decide⟩ ?_
        exact rr_iret dX9_older_53 rfl hh
      · have hh := hh.2 hc45
        refine rr_iconst dX9_older_48 rfl ⟨by decide, by decide⟩ ?_
        refine rr_goto (pc' := 53) dX9_older_49 (by decide) ?_
        exact rr_iret dX9_older_53 rfl hh
    · have hh := hh.2 hc19
      refine rr_bipush dX9_older_22 rfl ⟨by decide, by decide⟩ rfl ?_
      exact rr_iret dX9_older_24 rfl hh
theorem dX9_road_0 : decode cX9_road 0 = .ok (.aload_n 0, 1) := by decide +kernel
theorem dX9_road_1 : decode cX9_road 1 = .ok (.getfield 12, 3) := by decide +kernel
theorem dX9_road_4 : decode cX9_road 4 = .ok (.iload_n 1, 1) := by decide +kernel
theorem dX9_road_5 : decode cX9_road 5 = .ok (.invokevirtual 135, 3) := by decide +kernel
theorem dX9_road_8 : decode cX9_road 8 = .ok (.astore 6, 2) := by decide +kernel
theorem dX9_road_10 : decode cX9_road 10 = .ok (.aload_n 0, 1) := by decide +kernel
theorem dX9_road_11 : decode cX9_road 11 = .ok (.getfield 12, 3) := by decide +kernel
theorem dX9_road_14 : decode cX9_road 14 = .ok (.iload_n 3, 1) := by decide +kernel
theorem dX9_road_15 : decode cX9_road 15 = .ok (.invokevirtual 135, 3) := by decide +kernel
theorem dX9_road_18 : decode cX9_road 18 = .ok (.astore 7, 2) := by decide +kernel
theorem dX9_road_20 : decode cX9_road 20 = .ok (.aload 6, 2) := by decide +kernel
theorem dX9_road_22 : decode cX9_road 22 = .ok (.ifnull 23, 3) := by decide +kernel
theorem dX9_road_25 : decode cX9_road 25 = .ok (.aload 7, 2) := by decide +kernel
theorem dX9_road_27 : decode cX9_road 27 = .ok (.ifnull 18, 3) := by decide +kernel
theorem dX9_road_30 : decode cX9_road 30 = .ok (.iload_n 2, 1) := by decide +kernel
theorem dX9_road_31 : decode cX9_road 31 = .ok (.invokestatic 82, 3) := by decide +kernel
theorem dX9_road_34 : decode cX9_road 34 = .ok (.ifCond .eq 11, 3) := by decide +kernel
theorem dX9_road_37 : decode cX9_road 37 = .ok (.iload 4, 2) := by decide +kernel
theorem dX9_road_39 : decode cX9_road 39 = .ok (.invokestatic 82, 3) := by decide +kernel
theorem dX9_road_42 : decode cX9_road 42 = .ok (.ifCond .ne 6, 3) := by decide +kernel
theorem dX9_road_45 : decode cX9_road 45 = .ok (.bipush (-2), 2) := by decide +kernel
theorem dX9_road_47 : decode cX9_road 47 = .ok (.ireturn, 1) := by decide +kernel
theorem dX9_road_48 : decode cX9_road 48 = .ok (.iload 5, 2) := by decide +kernel
theorem dX9_road_50 : decode cX9_road 50 = .ok (.iconst (-1), 1) := by decide +kernel
theorem dX9_road_51 : decode cX9_road 51 = .ok (.if_icmp .ge 6, 3) := by decide +kernel
theorem dX9_road_54 : decode cX9_road 54 = .ok (.bipush (-3), 2) := by decide +kernel
theorem dX9_road_56 : decode cX9_road 56 = .ok (.ireturn, 1) := by decide +kernel
theorem dX9_road_57 : decode cX9_road 57 = .ok (.aload_n 0, 1) := by decide +kernel
theorem dX9_road_58 : decode cX9_road 58 = .ok (.getfield 51, 3) := by decide +kernel
theorem dX9_road_61 : decode cX9_road 61 = .ok (.aload_n 0, 1) := by decide +kernel
theorem dX9_road_62 : decode cX9_road 62 = .ok (.getfield 12, 3) := by decide +kernel
theorem dX9_road_65 : decode cX9_road 65 = .ok (.aload 6, 2) := by decide +kernel
theorem dX9_road_67 : decode cX9_road 67 = .ok (.getfield 144, 3) := by decide +kernel
theorem dX9_road_70 : decode cX9_road 70 = .ok (.iload_n 2, 1) := by decide +kernel
theorem dX9_road_71 : decode cX9_road 71 = .ok (.aload 7, 2) := by decide +kernel
theorem dX9_road_73 : decode cX9_road 73 = .ok (.getfield 206, 3) := by decide +kernel
theorem dX9_road_76 : decode cX9_road 76 = .ok (.iload 4, 2) := by decide +kernel
theorem dX9_road_78 : decode cX9_road 78 = .ok (.invokevirtual 252, 3) := by decide +kernel
theorem dX9_road_81 : decode cX9_road 81 = .ok (.iload 5, 2) := by decide +kernel
theorem dX9_road_83 : decode cX9_road 83 = .ok (.iconst (-1), 1) := by decide +kernel
theorem dX9_road_84 : decode cX9_road 84 = .ok (.if_icmp .ne 13, 3) := by decide +kernel
theorem dX9_road_87 : decode cX9_road 87 = .ok (.aload_n 0, 1) := by decide +kernel
theorem dX9_road_88 : decode cX9_road 88 = .ok (.getfield 51, 3) := by decide +kernel
theorem dX9_road_91 : decode cX9_road 91 = .ok (.getfield 256, 3) := by decide +kernel
theorem dX9_road_94 : decode cX9_road 94 = .ok (.goto 12, 3) := by decide +kernel
theorem dX9_road_97 : decode cX9_road 97 = .ok (.aload_n 0, 1) := by decide +kernel
theorem dX9_road_98 : decode cX9_road 98 = .ok (.getfield 51, 3) := by decide +kernel
theorem dX9_road_101 : decode cX9_road 101 = .ok (.iload 5, 2) := by decide +kernel
theorem dX9_road_103 : decode cX9_road 103 = .ok (.invokevirtual 257, 3) := by decide +kernel
theorem dX9_road_106 : decode cX9_road 106 = .ok (.ireturn, 1) := by decide +kernel
set_option maxRecDepth 100000 in
theorem B_X9_road_0 {d : Nat} {h : AbH} {K : Option AbV → AbH → Prop} {x0 : Nat} {x1 : Int} {x2 : Int} {x3 : Int} {x4 : Int} {x5 : Int} (hh : wpGR h (some x0) 8 0 (fun r1 => wpCV h r1 7 (fun b24 => Vm d m_X8_loanAt [vR (some b24), vI x1] h (kR (fun r3 h2 => wpGR h2 (some x0) 8 0 (fun r4 => wpCV h2 r4 7 (fun b23 => Vm d m_X8_loanAt [vR (some b23), vI x3] h2 (kR (fun r6 h5 => ((r3 = none → K (some (vI (-2))) h5) ∧ (¬ (r3 = none) → ((r6 = none → K (some (vI (-2))) h5) ∧ (¬ (r6 = none) → Vm d m_X9_isTongue [vI x2] h5 (kI (fun n8 h7 => ((n8 = 0 → K (some (vI (-2))) h7) ∧ (¬ (n8 = 0) → Vm d m_X9_isTongue [vI x4] h7 (kI (fun n10 h9 => ((n10 ≠ 0 → (((-1) ≤ x5 → wpGR h9 (some x0) 8 6 (fun r11 => wpGR h9 (some x0) 8 0 (fun r12 => wpGL h9 r3 2 2 (fun n13 => wpGL h9 r6 2 3 (fun n14 => wpCV h9 r11 5 (fun b22 => Vm d m_X6_find [vR (some b22), vR r12, vL n13, vI x2, vL n14, vI x4] h9 (kV (fun h15 => ((x5 ≠ (-1) → wpGR h15 (some x0) 8 6 (fun r16 => wpCV h15 r16 5 (fun b19 => Vm d m_X6_stepAt [vR (some b19), vI x5] h15 (kI (fun n18 h17 => K (some (vI n18)) h17))))) ∧ (¬ (x5 ≠ (-1)) → wpGR h15 (some x0) 8 6 (fun r20 => wpGI h15 r20 5 6 (fun n21 => K (some (vI n21)) h15)))))))))))) ∧ (¬ ((-1) ≤ x5) → K (some (vI (-3))) h9))) ∧ (¬ (n10 ≠ 0) → K (some (vI (-2))) h9))))))))))))))))))))) : Vx (d + 1) m_X9_road 0 0 0 [some (vR (some x0)), some (vI x1), some (vI x2), some (vI x3), some (vI x4), some (vI x5)] [] h K := by
  refine Vx.pad 2 [some (vR (some x0)), some (vI x1), some (vI x2), some (vI x3), some (vI x4), some (vI x5), none, none] rfl ?_
  refine rr_aload_n dX9_road_0 rfl rfl ?_
  refine rr_getR cf_X9 (j := 0) (by decide) dX9_road_1 rfl q_170 hh (fun r1 hh => ?_)
  refine rr_iload_n dX9_road_4 rfl rfl ?_
  refine rr_callW (bc' := 0) (bs' := 0) (q := r1) (av := [vI x1]) (st := []) mf_X8_loanAt dX9_road_5 rfl q_502 q_503 q_504 ⟨_, _, rfl⟩ rfl (by decide) (Nat.le_refl _) (Nat.le_refl _) hh (rr_kR fun r3 h2 hh => ?_)
  refine rr_astore (ls' := [some (vR (some x0)), some (vI x1), some (vI x2), some (vI x3), some (vI x4), some (vI x5), some (vR r3), none]) dX9_road_8 rfl (by decide) (fun _ z => by cases z) rfl ?_
  refine rr_aload_n dX9_road_10 rfl rfl ?_
  refine rr_getR cf_X9 (j := 0) (by decide) dX9_road_11 rfl q_170 hh (fun r4 hh => ?_)
  refine rr_iload_n dX9_road_14 rfl rfl ?_
  refine rr_callW (bc' := 0) (bs' := 0) (q := r4) (av := [vI x3]) (st := []) mf_X8_loanAt dX9_road_15 rfl q_502 q_503 q_504 ⟨_, _, rfl⟩ rfl (by decide) (Nat.le_refl _) (Nat.le_refl _) hh (rr_kR fun r6 h5 hh => ?_)
  refine rr_astore (ls' := [some (vR (some x0)), some (vI x1), some (vI x2), some (vI x3), some (vI x4), some (vI x5), some (vR r3), some (vR r6)]) dX9_road_18 rfl (by decide) (fun _ z => by cases z) rfl ?_
  refine rr_aload dX9_road_20 rfl rfl ?_
  refine rr_ifnull (tgt := 45) dX9_road_22 rfl (by decide) (fun hc22 => ?_) (fun hc22 => ?_)
  · have hh := hh.1 hc22
    refine rr_bipush dX9_road_45 rfl ⟨by decide, by decide⟩ rfl ?_
    exact rr_iret dX9_road_47 rfl hh
  · have hh := hh.2 hc22
    refine rr_aload dX9_road_25 rfl rfl ?_
    refine rr_ifnull (tgt := 45) dX9_road_27 rfl (by decide) (fun hc27 => ?_) (fun hc27 => ?_)
    · have hh := hh.1 hc27
      refine rr_bipush dX9_road_45 rfl ⟨by decide, by decide⟩ rfl ?_
      exact rr_iret dX9_road_47 rfl hh
    · have hh := hh.2 hc27
      refine rr_iload_n dX9_road_30 rfl rfl ?_
      refine rr_callS (bc' := 0) (bs' := 0) (av := [vI x2]) (st := []) mf_X9_isTongue dX9_road_31 rfl q_383 q_384 rfl (by decide) (Nat.le_refl _) (Nat.le_refl _) hh (rr_kI fun n8 h7 hh => ?_)
      refine rr_if_eq (tgt := 45) dX9_road_34 rfl (by decide) (fun hc34 => ?_) (fun hc34 => ?_)
      · have hh := hh.1 hc34
        refine rr_bipush dX9_road_45 rfl ⟨by decide, by decide⟩ rfl ?_
        exact rr_iret dX9_road_47 rfl hh
      · have hh := hh.2 hc34
        refine rr_iload dX9_road_37 rfl rfl ?_
        refine rr_callS (bc' := 0) (bs' := 0) (av := [vI x4]) (st := []) mf_X9_isTongue dX9_road_39 rfl q_383 q_384 rfl (by decide) (Nat.le_refl _) (Nat.le_refl _) hh (rr_kI fun n10 h9 hh => ?_)
        refine rr_if_ne (tgt := 48) dX9_road_42 rfl (by decide) (fun hc42 => ?_) (fun hc42 => ?_)
        · have hh := hh.1 hc42
          refine rr_iload dX9_road_48 rfl rfl ?_
          refine rr_iconst dX9_road_50 rfl ⟨by decide, by decide⟩ ?_
          refine rr_icmp_ge (tgt := 57) dX9_road_51 rfl (by decide) (fun hc51 => ?_) (fun hc51 => ?_)
          · have hh := hh.1 hc51
            refine rr_aload_n dX9_road_57 rfl rfl ?_
            refine rr_getR cf_X9 (j := 6) (by decide) dX9_road_58 rfl q_176 hh (fun r11 hh => ?_)
            refine rr_aload_n dX9_road_61 rfl rfl ?_
            refine rr_getR cf_X9 (j := 0) (by decide) dX9_road_62 rfl q_170 hh (fun r12 hh => ?_)
            refine rr_aload dX9_road_65 rfl rfl ?_
            refine rr_getL cf_X3 (j := 2) (by decide) dX9_road_67 rfl q_415 hh (fun n13 hh => ?_)
            refine rr_iload_n dX9_road_70 rfl rfl ?_
            refine rr_aload dX9_road_71 rfl rfl ?_
            refine rr_getL cf_X3 (j := 3) (by decide) dX9_road_73 rfl q_418 hh (fun n14 hh => ?_)
            refine rr_iload dX9_road_76 rfl rfl ?_
            refine rr_callW (bc' := 0) (bs' := 0) (q := r11) (av := [vR r12, vL n13, vI x2, vL n14, vI x4]) (st := []) mf_X6_find dX9_road_78 rfl q_684 q_685 q_686 ⟨_, _, rfl⟩ rfl (by decide) (Nat.le_refl _) (Nat.le_refl _) hh (rr_kV fun h15 hh => ?_)
            refine rr_iload dX9_road_81 rfl rfl ?_
            refine rr_iconst dX9_road_83 rfl ⟨by decide, by decide⟩ ?_
            refine rr_icmp_ne (tgt := 97) dX9_road_84 rfl (by decide) (fun hc84 => ?_) (fun hc84 => ?_)
            · have hh := hh.1 hc84
              refine rr_aload_n dX9_road_97 rfl rfl ?_
              refine rr_getR cf_X9 (j := 6) (by decide) dX9_road_98 rfl q_176 hh (fun r16 hh => ?_)
              refine rr_iload dX9_road_101 rfl rfl ?_
              refine rr_callW (bc' := 0) (bs' := 0) (q := r16) (av := [vI x5]) (st := []) mf_X6_stepAt dX9_road_103 rfl q_728 q_729 q_730 ⟨_, _, rfl⟩ rfl (by decide) (Nat.le_refl _) (Nat.le_refl _) hh (rr_kI fun n18 h17 hh => ?_)
              exact rr_iret dX9_road_106 rfl hh
            · have hh := hh.2 hc84
              refine rr_aload_n dX9_road_87 rfl rfl ?_
              refine rr_getR cf_X9 (j := 6) (by decide) dX9_road_88 rfl q_176 hh (fun r20 hh => ?_)
              refine rr_getI cf_X6 (j := 6) (by decide) dX9_road_91 rfl q_152 hh (fun n21 hh => ?_)
              refine rr_goto (pc' := 106) dX9_road_94 (by decide) ?_
              exact rr_iret dX9_road_106 rfl hh
          · have hh := hh.2 hc51
            refine rr_bipush dX9_road_54 rfl ⟨by decide, by decide⟩ rfl ?_
            exact rr_iret dX9_road_56 rfl hh
        · have hh := hh.2 hc42
          refine rr_bipush dX9_road_45 rfl ⟨by decide, by decide⟩ rfl ?_
          exact rr_iret dX9_road_47 rfl hh
theorem dX9_count_0 : decode cX9_count 0 = .ok (.iload_n 1, 1) := by decide +kernel
theorem dX9_count_1 : decode cX9_count 1 = .ok (.tableswitch 146 0 12 #[67, 75, 83, 91, 91, 91, 99, 118, 126, 134, 134, 134, 134], 67) := by decide +kernel
theorem dX9_count_68 : decode cX9_count 68 = .ok (.aload_n 0, 1) := by decide +kernel
theorem dX9_count_69 : decode cX9_count 69 = .ok (.getfield 12, 3) := by decide +kernel
theorem dX9_count_72 : decode cX9_count 72 = .ok (.getfield 93, 3) := by decide +kernel
theorem dX9_count_75 : decode cX9_count 75 = .ok (.ireturn, 1) := by decide +kernel
theorem dX9_count_76 : decode cX9_count 76 = .ok (.aload_n 0, 1) := by decide +kernel
theorem dX9_count_77 : decode cX9_count 77 = .ok (.getfield 12, 3) := by decide +kernel
theorem dX9_count_80 : decode cX9_count 80 = .ok (.invokevirtual 127, 3) := by decide +kernel
theorem dX9_count_83 : decode cX9_count 83 = .ok (.ireturn, 1) := by decide +kernel
theorem dX9_count_84 : decode cX9_count 84 = .ok (.aload_n 0, 1) := by decide +kernel
theorem dX9_count_85 : decode cX9_count 85 = .ok (.getfield 12, 3) := by decide +kernel
theorem dX9_count_88 : decode cX9_count 88 = .ok (.getfield 139, 3) := by decide +kernel
theorem dX9_count_91 : decode cX9_count 91 = .ok (.ireturn, 1) := by decide +kernel
theorem dX9_count_92 : decode cX9_count 92 = .ok (.aload_n 0, 1) := by decide +kernel
theorem dX9_count_93 : decode cX9_count 93 = .ok (.iload_n 1, 1) := by decide +kernel
theorem dX9_count_94 : decode cX9_count 94 = .ok (.iconst 3, 1) := by decide +kernel
theorem dX9_count_95 : decode cX9_count 95 = .ok (.isub, 1) := by decide +kernel
theorem dX9_count_96 : decode cX9_count 96 = .ok (.invokevirtual 260, 3) := by decide +kernel
theorem dX9_count_99 : decode cX9_count 99 = .ok (.ireturn, 1) := by decide +kernel
theorem dX9_count_100 : decode cX9_count 100 = .ok (.aload_n 0, 1) := by decide +kernel
theorem dX9_count_101 : decode cX9_count 101 = .ok (.getfield 44, 3) := by decide +kernel
theorem dX9_count_104 : decode cX9_count 104 = .ok (.aload_n 0, 1) := by decide +kernel
theorem dX9_count_105 : decode cX9_count 105 = .ok (.getfield 12, 3) := by decide +kernel
theorem dX9_count_108 : decode cX9_count 108 = .ok (.aload_n 0, 1) := by decide +kernel
theorem dX9_count_109 : decode cX9_count 109 = .ok (.getfield 37, 3) := by decide +kernel
theorem dX9_count_112 : decode cX9_count 112 = .ok (.invokevirtual 224, 3) := by decide +kernel
theorem dX9_count_115 : decode cX9_count 115 = .ok (.invokevirtual 263, 3) := by decide +kernel
theorem dX9_count_118 : decode cX9_count 118 = .ok (.ireturn, 1) := by decide +kernel
theorem dX9_count_119 : decode cX9_count 119 = .ok (.aload_n 0, 1) := by decide +kernel
theorem dX9_count_120 : decode cX9_count 120 = .ok (.getfield 19, 3) := by decide +kernel
theorem dX9_count_123 : decode cX9_count 123 = .ok (.getfield 168, 3) := by decide +kernel
theorem dX9_count_126 : decode cX9_count 126 = .ok (.ireturn, 1) := by decide +kernel
theorem dX9_count_127 : decode cX9_count 127 = .ok (.aload_n 0, 1) := by decide +kernel
theorem dX9_count_128 : decode cX9_count 128 = .ok (.getfield 30, 3) := by decide +kernel
theorem dX9_count_131 : decode cX9_count 131 = .ok (.getfield 59, 3) := by decide +kernel
theorem dX9_count_134 : decode cX9_count 134 = .ok (.ireturn, 1) := by decide +kernel
theorem dX9_count_135 : decode cX9_count 135 = .ok (.aload_n 0, 1) := by decide +kernel
theorem dX9_count_136 : decode cX9_count 136 = .ok (.getfield 12, 3) := by decide +kernel
theorem dX9_count_139 : decode cX9_count 139 = .ok (.iload_n 1, 1) := by decide +kernel
theorem dX9_count_140 : decode cX9_count 140 = .ok (.bipush 9, 2) := by decide +kernel
theorem dX9_count_142 : decode cX9_count 142 = .ok (.isub, 1) := by decide +kernel
theorem dX9_count_143 : decode cX9_count 143 = .ok (.invokevirtual 266, 3) := by decide +kernel
theorem dX9_count_146 : decode cX9_count 146 = .ok (.ireturn, 1) := by decide +kernel
theorem dX9_count_147 : decode cX9_count 147 = .ok (.bipush (-3), 2) := by decide +kernel
theorem dX9_count_149 : decode cX9_count 149 = .ok (.ireturn, 1) := by decide +kernel
set_option maxRecDepth 100000 in
theorem B_X9_count_0 {d : Nat} {h : AbH} {K : Option AbV → AbH → Prop} {x0 : Nat} {x1 : Int} (hh : ((x1 = 0 → wpGR h (some x0) 8 0 (fun r1 => wpGI h r1 7 4 (fun n2 => K (some (vI n2)) h))) ∧ (x1 = 1 → wpGR h (some x0) 8 0 (fun r3 => wpCV h r3 7 (fun b6 => Vm d m_X8_meetings [vR (some b6)] h (kI (fun n5 h4 => K (some (vI n5)) h4))))) ∧ (x1 = 2 → wpGR h (some x0) 8 0 (fun r7 => wpGI h r7 7 5 (fun n8 => K (some (vI n8)) h))) ∧ (x1 = 3 → in32 (x1 - 3) ∧ wpCV h (some x0) 8 (fun b12 => Vm d m_X9_loansOfKind [vR (some b12), vI (x1 - 3)] h (kI (fun n11 h10 => K (some (vI n11)) h10)))) ∧ (x1 = 4 → in32 (x1 - 3) ∧ wpCV h (some x0) 8 (fun b16 => Vm d m_X9_loansOfKind [vR (some b16), vI (x1 - 3)] h (kI (fun n15 h14 => K (some (vI n15)) h14)))) ∧ (x1 = 5 → in32 (x1 - 3) ∧ wpCV h (some x0) 8 (fun b20 => Vm d m_X9_loansOfKind [vR (some b20), vI (x1 - 3)] h (kI (fun n19 h18 => K (some (vI n19)) h18)))) ∧ (x1 = 6 → wpGR h (some x0) 8 5 (fun r21 => wpGR h (some x0) 8 0 (fun r22 => wpGR h (some x0) 8 4 (fun r23 => wpCV h r21 1 (fun b29 => Vm d m_X2_of [vR (some b29), vR r22, vR r23] h (kR (fun r25 h24 => wpCV h24 r25 1 (fun b28 => Vm d m_X2_greatest [vR (some b28)] h24 (kI (fun n27 h26 => K (some (vI n27)) h26)))))))))) ∧ (x1 = 7 → wpGR h (some x0) 8 1 (fun r30 => wpGI h r30 3 1 (fun n31 => K (some (vI n31)) h))) ∧ (x1 = 8 → wpGR h (some x0) 8 3 (fun r32 => wpGI h r32 4 1 (fun n33 => K (some (vI n33)) h))) ∧ (x1 = 9 → wpGR h (some x0) 8 0 (fun r34 => in32 (x1 - 9) ∧ wpCV h r34 7 (fun b38 => Vm d m_X8_lawsOf [vR (some b38), vI (x1 - 9)] h (kI (fun n37 h36 => K (some (vI n37)) h36))))) ∧ (x1 = 10 → wpGR h (some x0) 8 0 (fun r39 => in32 (x1 - 9) ∧ wpCV h r39 7 (fun b43 => Vm d m_X8_lawsOf [vR (some b43), vI (x1 - 9)] h (kI (fun n42 h41 => K (some (vI n42)) h41))))) ∧ (x1 = 11 → wpGR h (some x0) 8 0 (fun r44 => in32 (x1 - 9) ∧ wpCV h r44 7 (fun b48 => Vm d m_X8_lawsOf [vR (some b48), vI (x1 - 9)] h (kI (fun n47 h46 => K (some (vI n47)) h46))))) ∧ (x1 = 12 → wpGR h (some x0) 8 0 (fun r49 => in32 (x1 - 9) ∧ wpCV h r49 7 (fun b53 => Vm d m_X8_lawsOf [vR (some b53), vI (x1 - 9)] h (kI (fun n52 h51 => K (some (vI n52)) h51))))) ∧ ((x1 < 0 ∨ 12 < x1) → K (some (vI (-3))) h))) : Vx (d + 1) m_X9_count 0 0 0 [some (vR (some x0)), some (vI x1)] [] h K := by
  refine rr_iload_n dX9_count_0 rfl rfl ?_
  by_cases hz1_0 : x1 = 0
  · have hh := hh.1 hz1_0
    refine rr_tableIn (pc' := 68) 0 dX9_count_1 (by rw [hz1_0]; rfl) (by decide) rfl (by decide) ?_
    refine rr_aload_n dX9_count_68 rfl rfl ?_
    refine rr_getR cf_X9 (j := 0) (by decide) dX9_count_69 rfl q_170 hh (fun r1 hh => ?_)
    refine rr_getI cf_X8 (j := 4) (by decide) dX9_count_72 rfl q_41 hh (fun n2 hh => ?_)
    exact rr_iret dX9_count_75 rfl hh
  by_cases hz1_1 : x1 = 1
  · have hh := hh.2.1 hz1_1
    refine rr_tableIn (pc' := 76) 1 dX9_count_1 (by rw [hz1_1]; rfl) (by decide) rfl (by decide) ?_
    refine rr_aload_n dX9_count_76 rfl rfl ?_
    refine rr_getR cf_X9 (j := 0) (by decide) dX9_count_77 rfl q_170 hh (fun r3 hh => ?_)
    refine rr_callW (bc' := 0) (bs' := 0) (q := r3) (av := []) (st := []) mf_X8_meetings dX9_count_80 rfl q_486 q_487 q_488 ⟨_, _, rfl⟩ rfl (by decide) (Nat.le_refl _) (Nat.le_refl _) hh (rr_kI fun n5 h4 hh => ?_)
    exact rr_iret dX9_count_83 rfl hh
  by_cases hz1_2 : x1 = 2
  · have hh := hh.2.2.1 hz1_2
    refine rr_tableIn (pc' := 84) 2 dX9_count_1 (by rw [hz1_2]; rfl) (by decide) rfl (by decide) ?_
    refine rr_aload_n dX9_count_84 rfl rfl ?_
    refine rr_getR cf_X9 (j := 0) (by decide) dX9_count_85 rfl q_170 hh (fun r7 hh => ?_)
    refine rr_getI cf_X8 (j := 5) (by decide) dX9_count_88 rfl q_44 hh (fun n8 hh => ?_)
    exact rr_iret dX9_count_91 rfl hh
  by_cases hz1_3 : x1 = 3
  · have hh := hh.2.2.2.1 hz1_3
    refine rr_tableIn (pc' := 92) 3 dX9_count_1 (by rw [hz1_3]; rfl) (by decide) rfl (by decide) ?_
    refine rr_aload_n dX9_count_92 rfl rfl ?_
    refine rr_iload_n dX9_count_93 rfl rfl ?_
    refine rr_iconst dX9_count_94 rfl ⟨by decide, by decide⟩ ?_
    obtain ⟨hz9, hh⟩ := hh
    refine rr_isub dX9_count_95 rfl hz9 ?_
    refine rr_callW (bc' := 0) (bs' := 0) (q := (some x0)) (av := [vI (x1 - 3)]) (st := []) mf_X9_loansOfKind dX9_count_96 rfl q_736 q_738 qs_23 ⟨_, _, rfl⟩ rfl (by decide) (Nat.le_refl _) (Nat.le_refl _) hh (rr_kI fun n11 h10 hh => ?_)
    exact rr_iret dX9_count_99 rfl hh
  by_cases hz1_4 : x1 = 4
  · have hh := hh.2.2.2.2.1 hz1_4
    refine rr_tableIn (pc' := 92) 4 dX9_count_1 (by rw [hz1_4]; rfl) (by decide) rfl (by decide) ?_
    refine rr_aload_n dX9_count_92 rfl rfl ?_
    refine rr_iload_n dX9_count_93 rfl rfl ?_
    refine rr_iconst dX9_count_94 rfl ⟨by decide, by decide⟩ ?_
    obtain ⟨hz13, hh⟩ := hh
    refine rr_isub dX9_count_95 rfl hz13 ?_
    refine rr_callW (bc' := 0) (bs' := 0) (q := (some x0)) (av := [vI (x1 - 3)]) (st := []) mf_X9_loansOfKind dX9_count_96 rfl q_736 q_738 qs_23 ⟨_, _, rfl⟩ rfl (by decide) (Nat.le_refl _) (Nat.le_refl _) hh (rr_kI fun n15 h14 hh => ?_)
    exact rr_iret dX9_count_99 rfl hh
  by_cases hz1_5 : x1 = 5
  · have hh := hh.2.2.2.2.2.1 hz1_5
    refine rr_tableIn (pc' := 92) 5 dX9_count_1 (by rw [hz1_5]; rfl) (by decide) rfl (by decide) ?_
    refine rr_aload_n dX9_count_92 rfl rfl ?_
    refine rr_iload_n dX9_count_93 rfl rfl ?_
    refine rr_iconst dX9_count_94 rfl ⟨by decide, by decide⟩ ?_
    obtain ⟨hz17, hh⟩ := hh
    refine rr_isub dX9_count_95 rfl hz17 ?_
    refine rr_callW (bc' := 0) (bs' := 0) (q := (some x0)) (av := [vI (x1 - 3)]) (st := []) mf_X9_loansOfKind dX9_count_96 rfl q_736 q_738 qs_23 ⟨_, _, rfl⟩ rfl (by decide) (Nat.le_refl _) (Nat.le_refl _) hh (rr_kI fun n19 h18 hh => ?_)
    exact rr_iret dX9_count_99 rfl hh
  by_cases hz1_6 : x1 = 6
  · have hh := hh.2.2.2.2.2.2.1 hz1_6
    refine rr_tableIn (pc' := 100) 6 dX9_count_1 (by rw [hz1_6]; rfl) (by decide) rfl (by decide) ?_
    refine rr_aload_n dX9_count_100 rfl rfl ?_
    refine rr_getR cf_X9 (j := 5) (by decide) dX9_count_101 rfl q_175 hh (fun r21 hh => ?_)
    refine rr_aload_n dX9_count_104 rfl rfl ?_
    refine rr_getR cf_X9 (j := 0) (by decide) dX9_count_105 rfl q_170 hh (fun r22 hh => ?_)
    refine rr_aload_n dX9_count_108 rfl rfl ?_
    refine rr_getR cf_X9 (j := 4) (by decide) dX9_count_109 rfl q_174 hh (fun r23 hh => ?_)
    refine rr_callW (bc' := 0) (bs' := 0) (q := r21) (av := [vR r22, vR r23]) (st := []) mf_X2_of dX9_count_112 rfl q_611 q_612 q_613 ⟨_, _, rfl⟩ rfl (by decide) (Nat.le_refl _) (Nat.le_refl _) hh (rr_kR fun r25 h24 hh => ?_)
    refine rr_callW (bc' := 0) (bs' := 0) (q := r25) (av := []) (st := []) mf_X2_greatest dX9_count_115 rfl q_740 q_741 q_742 ⟨_, _, rfl⟩ rfl (by decide) (Nat.le_refl _) (Nat.le_refl _) hh (rr_kI fun n27 h26 hh => ?_)
    exact rr_iret dX9_count_118 rfl hh
  by_cases hz1_7 : x1 = 7
  · have hh := hh.2.2.2.2.2.2.2.1 hz1_7
    refine rr_tableIn (pc' := 119) 7 dX9_count_1 (by rw [hz1_7]; rfl) (by decide) rfl (by decide) ?_
    refine rr_aload_n dX9_count_119 rfl rfl ?_
    refine rr_getR cf_X9 (j := 1) (by decide) dX9_count_120 rfl q_171 hh (fun r30 hh => ?_)
    refine rr_getI cf_X4 (j := 1) (by decide) dX9_count_123 rfl q_69 hh (fun n31 hh => ?_)
    exact rr_iret dX9_count_126 rfl hh
  by_cases hz1_8 : x1 = 8
  · have hh := hh.2.2.2.2.2.2.2.2.1 hz1_8
    refine rr_tableIn (pc' := 127) 8 dX9_count_1 (by rw [hz1_8]; rfl) (by decide) rfl (by decide) ?_
    refine rr_aload_n dX9_count_127 rfl rfl ?_
    refine rr_getR cf_X9 (j := 3) (by decide) dX9_count_128 rfl q_173 hh (fun r32 hh => ?_)
    refine rr_getI cf_X5 (j := 1) (by decide) dX9_count_131 rfl q_83 hh (fun n33 hh => ?_)
    exact rr_iret dX9_count_134 rfl hh
  by_cases hz1_9 : x1 = 9
  · have hh := hh.2.2.2.2.2.2.2.2.2.1 hz1_9
    refine rr_tableIn (pc' := 135) 9 dX9_count_1 (by rw [hz1_9]; rfl) (by decide) rfl (by decide) ?_
    refine rr_aload_n dX9_count_135 rfl rfl ?_
    refine rr_getR cf_X9 (j := 0) (by decide) dX9_count_136 rfl q_170 hh (fun r34 hh => ?_)
    refine rr_iload_n dX9_count_139 rfl rfl ?_
    refine rr_bipush dX9_count_140 rfl ⟨by decide, by decide⟩ rfl ?_
    obtain ⟨hz35, hh⟩ := hh
    refine rr_isub dX9_count_142 rfl hz35 ?_
    refine rr_callW (bc' := 0) (bs' := 0) (q := r34) (av := [vI (x1 - 9)]) (st := []) mf_X8_lawsOf dX9_count_143 rfl q_744 q_745 q_746 ⟨_, _, rfl⟩ rfl (by decide) (Nat.le_refl _) (Nat.le_refl _) hh (rr_kI fun n37 h36 hh => ?_)
    exact rr_iret dX9_count_146 rfl hh
  by_cases hz1_10 : x1 = 10
  · have hh := hh.2.2.2.2.2.2.2.2.2.2.1 hz1_10
    refine rr_tableIn (pc' := 135) 10 dX9_count_1 (by rw [hz1_10]; rfl) (by decide) rfl (by decide) ?_
    refine rr_aload_n dX9_count_135 rfl rfl ?_
    refine rr_getR cf_X9 (j := 0) (by decide) dX9_count_136 rfl q_170 hh (fun r39 hh => ?_)
    refine rr_iload_n dX9_count_139 rfl rfl ?_
    refine rr_bipush dX9_count_140 rfl ⟨by decide, by decide⟩ rfl ?_
    obtain ⟨hz40, hh⟩ := hh
    refine rr_isub dX9_count_142 rfl hz40 ?_
    refine rr_callW (bc' := 0) (bs' := 0) (q := r39) (av := [vI (x1 - 9)]) (st := []) mf_X8_lawsOf dX9_count_143 rfl q_744 q_745 q_746 ⟨_, _, rfl⟩ rfl (by decide) (Nat.le_refl _) (Nat.le_refl _) hh (rr_kI fun n42 h41 hh => ?_)
    exact rr_iret dX9_count_146 rfl hh
  by_cases hz1_11 : x1 = 11
  · have hh := hh.2.2.2.2.2.2.2.2.2.2.2.1 hz1_11
    refine rr_tableIn (pc' := 135) 11 dX9_count_1 (by rw [hz1_11]; rfl) (by decide) rfl (by decide) ?_
    refine rr_aload_n dX9_count_135 rfl rfl ?_
    refine rr_getR cf_X9 (j := 0) (by decide) dX9_count_136 rfl q_170 hh (fun r44 hh => ?_)
    refine rr_iload_n dX9_count_139 rfl rfl ?_
    refine rr_bipush dX9_count_140 rfl ⟨by decide, by decide⟩ rfl ?_
    obtain ⟨hz45, hh⟩ := hh
    refine rr_isub dX9_count_142 rfl hz45 ?_
    refine rr_callW (bc' := 0) (bs' := 0) (q := r44) (av := [vI (x1 - 9)]) (st := []) mf_X8_lawsOf dX9_count_143 rfl q_744 q_745 q_746 ⟨_, _, rfl⟩ rfl (by decide) (Nat.le_refl _) (Nat.le_refl _) hh (rr_kI fun n47 h46 hh => ?_)
    exact rr_iret dX9_count_146 rfl hh
  by_cases hz1_12 : x1 = 12
  · have hh := hh.2.2.2.2.2.2.2.2.2.2.2.2.1 hz1_12
    refine rr_tableIn (pc' := 135) 12 dX9_count_1 (by rw [hz1_12]; rfl) (by decide) rfl (by decide) ?_
    refine rr_aload_n dX9_count_135 rfl rfl ?_
    refine rr_getR cf_X9 (j := 0) (by decide) dX9_count_136 rfl q_170 hh (fun r49 hh => ?_)
    refine rr_iload_n dX9_count_139 rfl rfl ?_
    refine rr_bipush dX9_count_140 rfl ⟨by decide, by decide⟩ rfl ?_
    obtain ⟨hz50, hh⟩ := hh
    refine rr_isub dX9_count_142 rfl hz50 ?_
    refine rr_callW (bc' := 0) (bs' := 0) (q := r49) (av := [vI (x1 - 9)]) (st := []) mf_X8_lawsOf dX9_count_143 rfl q_744 q_745 q_746 ⟨_, _, rfl⟩ rfl (by decide) (Nat.le_refl _) (Nat.le_refl _) hh (rr_kI fun n52 h51 hh => ?_)
    exact rr_iret dX9_count_146 rfl hh
  have hz1_o : x1 < 0 ∨ 12 < x1 := by omega
  have hh := hh.2.2.2.2.2.2.2.2.2.2.2.2.2 hz1_o
  refine rr_tableOut (pc' := 147) dX9_count_1 hz1_o (by decide) ?_
  refine rr_bipush dX9_count_147 rfl ⟨by decide, by decide⟩ rfl ?_
  exact rr_iret dX9_count_149 rfl hh
theorem dX9_loansOfKind_0 : decode cX9_loansOfKind 0 = .ok (.iconst 0, 1) := by decide +kernel
theorem dX9_loansOfKind_1 : decode cX9_loansOfKind 1 = .ok (.istore_n 2, 1) := by decide +kernel
theorem dX9_loansOfKind_2 : decode cX9_loansOfKind 2 = .ok (.iconst 0, 1) := by decide +kernel
theorem dX9_loansOfKind_3 : decode cX9_loansOfKind 3 = .ok (.istore_n 3, 1) := by decide +kernel
theorem dX9_loansOfKind_4 : decode cX9_loansOfKind 4 = .ok (.iload_n 3, 1) := by decide +kernel
theorem dX9_loansOfKind_5 : decode cX9_loansOfKind 5 = .ok (.bipush 12, 2) := by decide +kernel
theorem dX9_loansOfKind_7 : decode cX9_loansOfKind 7 = .ok (.if_icmp .ge 47, 3) := by decide +kernel
theorem dX9_loansOfKind_10 : decode cX9_loansOfKind 10 = .ok (.aload_n 0, 1) := by decide +kernel
theorem dX9_loansOfKind_11 : decode cX9_loansOfKind 11 = .ok (.getfield 12, 3) := by decide +kernel
theorem dX9_loansOfKind_14 : decode cX9_loansOfKind 14 = .ok (.iload_n 3, 1) := by decide +kernel
theorem dX9_loansOfKind_15 : decode cX9_loansOfKind 15 = .ok (.invokevirtual 135, 3) := by decide +kernel
theorem dX9_loansOfKind_18 : decode cX9_loansOfKind 18 = .ok (.astore 4, 2) := by decide +kernel
theorem dX9_loansOfKind_20 : decode cX9_loansOfKind 20 = .ok (.aload 4, 2) := by decide +kernel
theorem dX9_loansOfKind_22 : decode cX9_loansOfKind 22 = .ok (.ifnull 26, 3) := by decide +kernel
theorem dX9_loansOfKind_25 : decode cX9_loansOfKind 25 = .ok (.aload_n 0, 1) := by decide +kernel
theorem dX9_loansOfKind_26 : decode cX9_loansOfKind 26 = .ok (.getfield 37, 3) := by decide +kernel
theorem dX9_loansOfKind_29 : decode cX9_loansOfKind 29 = .ok (.aload_n 0, 1) := by decide +kernel
theorem dX9_loansOfKind_30 : decode cX9_loansOfKind 30 = .ok (.getfield 12, 3) := by decide +kernel
theorem dX9_loansOfKind_33 : decode cX9_loansOfKind 33 = .ok (.aload 4, 2) := by decide +kernel
theorem dX9_loansOfKind_35 : decode cX9_loansOfKind 35 = .ok (.invokevirtual 209, 3) := by decide +kernel
theorem dX9_loansOfKind_38 : decode cX9_loansOfKind 38 = .ok (.invokevirtual 213, 3) := by decide +kernel
theorem dX9_loansOfKind_41 : decode cX9_loansOfKind 41 = .ok (.iload_n 1, 1) := by decide +kernel
theorem dX9_loansOfKind_42 : decode cX9_loansOfKind 42 = .ok (.if_icmp .ne 6, 3) := by decide +kernel
theorem dX9_loansOfKind_45 : decode cX9_loansOfKind 45 = .ok (.iinc 2 1, 3) := by decide +kernel
theorem dX9_loansOfKind_48 : decode cX9_loansOfKind 48 = .ok (.iinc 3 1, 3) := by decide +kernel
theorem dX9_loansOfKind_51 : decode cX9_loansOfKind 51 = .ok (.goto (-47), 3) := by decide +kernel
theorem dX9_loansOfKind_54 : decode cX9_loansOfKind 54 = .ok (.iload_n 2, 1) := by decide +kernel
theorem dX9_loansOfKind_55 : decode cX9_loansOfKind 55 = .ok (.ireturn, 1) := by decide +kernel
set_option maxRecDepth 100000 in
theorem B_X9_loansOfKind_0 {d : Nat} {h : AbH} {K : Option AbV → AbH → Prop} {x0 : Nat} {x1 : Int} (hh : Vx (d + 1) m_X9_loansOfKind 0 0 4 [some (vR (some x0)), some (vI x1), some (vI 0), some (vI 0), none] [] h K) : Vx (d + 1) m_X9_loansOfKind 0 0 0 [some (vR (some x0)), some (vI x1)] [] h K := by
  refine Vx.pad 3 [some (vR (some x0)), some (vI x1), none, none, none] rfl ?_
  refine rr_iconst dX9_loansOfKind_0 rfl ⟨by decide, by decide⟩ ?_
  refine rr_istore_n (ls' := [some (vR (some x0)), some (vI x1), some (vI 0), none, none]) dX9_loansOfKind_1 rfl (by decide) (fun _ z => by cases z) rfl ?_
  refine rr_iconst dX9_loansOfKind_2 rfl ⟨by decide, by decide⟩ ?_
  refine rr_istore_n (ls' := [some (vR (some x0)), some (vI x1), some (vI 0), some (vI 0), none]) dX9_loansOfKind_3 rfl (by decide) (fun _ z => by cases z) rfl ?_
  exact hh
set_option maxRecDepth 100000 in
theorem B_X9_loansOfKind_4 {d : Nat} {h : AbH} {K : Option AbV → AbH → Prop} {x0 : Nat} {x1 : Int} {x2 : Int} {x3 : Int} {bc bs : Nat} (hh : ((12 ≤ x3 → K (some (vI x2)) h) ∧ (¬ (12 ≤ x3) → wpGR h (some x0) 8 0 (fun r1 => wpCV h r1 7 (fun b16 => Vm d m_X8_loanAt [vR (some b16), vI x3] h (kR (fun r3 h2 => ((r3 = none → in32 (x3 + 1) ∧ Vx (d + 1) m_X9_loansOfKind bc bs 4 [some (vR (some x0)), some (vI x1), some (vI x2), some (vI (x3 + 1)), none] [] h2 K) ∧ (¬ (r3 = none) → wpGR h2 (some x0) 8 4 (fun r5 => wpGR h2 (some x0) 8 0 (fun r6 => wpCV h2 r5 6 (fun b15 => Vm d m_X7_of [vR (some b15), vR r6, vR r3] h2 (kR (fun r8 h7 => wpCV h7 r8 6 (fun b14 => Vm d m_X7_kind [vR (some b14)] h7 (kI (fun n10 h9 => ((n10 ≠ x1 → in32 (x3 + 1) ∧ Vx (d + 1) m_X9_loansOfKind bc bs 4 [some (vR (some x0)), some (vI x1), some (vI x2), some (vI (x3 + 1)), none] [] h9 K) ∧ (¬ (n10 ≠ x1) → in32 (x2 + 1) ∧ in32 (x3 + 1) ∧ Vx (d + 1) m_X9_loansOfKind bc bs 4 [some (vR (some x0)), some (vI x1), some (vI (x2 + 1)), some (vI (x3 + 1)), none] [] h9 K))))))))))))))))))) : Vx (d + 1) m_X9_loansOfKind bc bs 4 [some (vR (some x0)), some (vI x1), some (vI x2), some (vI x3), none] [] h K := by
  refine rr_iload_n dX9_loansOfKind_4 rfl rfl ?_
  refine rr_bipush dX9_loansOfKind_5 rfl ⟨by decide, by decide⟩ rfl ?_
  refine rr_icmp_ge (tgt := 54) dX9_loansOfKind_7 rfl (by decide) (fun hc7 => ?_) (fun hc7 => ?_)
  · have hh := hh.1 hc7
    refine rr_iload_n dX9_loansOfKind_54 rfl rfl ?_
    exact rr_iret dX9_loansOfKind_55 rfl hh
  · have hh := hh.2 hc7
    refine rr_aload_n dX9_loansOfKind_10 rfl rfl ?_
    refine rr_getR cf_X9 (j := 0) (by decide) dX9_loansOfKind_11 rfl q_170 hh (fun r1 hh => ?_)
    refine rr_iload_n dX9_loansOfKind_14 rfl rfl ?_
    refine rr_callW (bc' := bc) (bs' := bs) (q := r1) (av := [vI x3]) (st := []) mf_X8_loanAt dX9_loansOfKind_15 rfl q_502 q_503 q_504 ⟨_, _, rfl⟩ rfl (by decide) (Nat.le_refl _) (Nat.le_refl _) hh (rr_kR fun r3 h2 hh => ?_)
    refine rr_astore (ls' := [some (vR (some x0)), some (vI x1), some (vI x2), some (vI x3), some (vR r3)]) dX9_loansOfKind_18 rfl (by decide) (fun _ z => by cases z) rfl ?_
    refine rr_aload dX9_loansOfKind_20 rfl rfl ?_
    refine rr_ifnull (tgt := 48) dX9_loansOfKind_22 rfl (by decide) (fun hc22 => ?_) (fun hc22 => ?_)
    · have hh := hh.1 hc22
      obtain ⟨hz4, hh⟩ := hh
      refine rr_iinc (ls' := [some (vR (some x0)), some (vI x1), some (vI x2), some (vI (x3 + 1)), some (vR r3)]) dX9_loansOfKind_48 rfl rfl (by decide) (fun _ z => by cases z) hz4 rfl ?_
      refine rr_goto (pc' := 4) dX9_loansOfKind_51 (by decide) ?_
      exact Vx.forget (ls' := [some (vR (some x0)), some (vI x1), some (vI x2), some (vI (x3 + 1)), none]) (And.intro rfl (And.intro rfl (And.intro rfl (And.intro rfl trivial)))) hh
    · have hh := hh.2 hc22
      refine rr_aload_n dX9_loansOfKind_25 rfl rfl ?_
      refine rr_getR cf_X9 (j := 4) (by decide) dX9_loansOfKind_26 rfl q_174 hh (fun r5 hh => ?_)
      refine rr_aload_n dX9_loansOfKind_29 rfl rfl ?_
      refine rr_getR cf_X9 (j := 0) (by decide) dX9_loansOfKind_30 rfl q_170 hh (fun r6 hh => ?_)
      refine rr_aload dX9_loansOfKind_33 rfl rfl ?_
      refine rr_callW (bc' := bc) (bs' := bs) (q := r5) (av := [vR r6, vR r3]) (st := []) mf_X7_of dX9_loansOfKind_35 rfl q_576 q_577 q_578 ⟨_, _, rfl⟩ rfl (by decide) (Nat.le_refl _) (Nat.le_refl _) hh (rr_kR fun r8 h7 hh => ?_)
      refine rr_callW (bc' := bc) (bs' := bs) (q := r8) (av := []) (st := []) mf_X7_kind dX9_loansOfKind_38 rfl q_595 q_596 q_597 ⟨_, _, rfl⟩ rfl (by decide) (Nat.le_refl _) (Nat.le_refl _) hh (rr_kI fun n10 h9 hh => ?_)
      refine rr_iload_n dX9_loansOfKind_41 rfl rfl ?_
      refine rr_icmp_ne (tgt := 48) dX9_loansOfKind_42 rfl (by decide) (fun hc42 => ?_) (fun hc42 => ?_)
      · have hh := hh.1 hc42
        obtain ⟨hz11, hh⟩ := hh
        refine rr_iinc (ls' := [some (vR (some x0)), some (vI x1), some (vI x2), some (vI (x3 + 1)), some (vR r3)]) dX9_loansOfKind_48 rfl rfl (by decide) (fun _ z => by cases z) hz11 rfl ?_
        refine rr_goto (pc' := 4) dX9_loansOfKind_51 (by decide) ?_
        exact Vx.forget (ls' := [some (vR (some x0)), some (vI x1), some (vI x2), some (vI (x3 + 1)), none]) (And.intro rfl (And.intro rfl (And.intro rfl (And.intro rfl trivial)))) hh
      · have hh := hh.2 hc42
        obtain ⟨hz12, hh⟩ := hh
        refine rr_iinc (ls' := [some (vR (some x0)), some (vI x1), some (vI (x2 + 1)), some (vI x3), some (vR r3)]) dX9_loansOfKind_45 rfl rfl (by decide) (fun _ z => by cases z) hz12 rfl ?_
        obtain ⟨hz13, hh⟩ := hh
        refine rr_iinc (ls' := [some (vR (some x0)), some (vI x1), some (vI (x2 + 1)), some (vI (x3 + 1)), some (vR r3)]) dX9_loansOfKind_48 rfl rfl (by decide) (fun _ z => by cases z) hz13 rfl ?_
        refine rr_goto (pc' := 4) dX9_loansOfKind_51 (by decide) ?_
        exact Vx.forget (ls' := [some (vR (some x0)), some (vI x1), some (vI (x2 + 1)), some (vI (x3 + 1)), none]) (And.intro rfl (And.intro rfl (And.intro rfl (And.intro rfl trivial)))) hh
