theorem dX10_init_0 : decode cX10_init 0 = .ok (.aload_n 0, 1) := by decide +kernel
theorem dX10_init_1 : decode cX10_init 1 = .ok (.invokespecial 1, 3) := by decide +kernel
theorem dX10_init_4 : decode cX10_init 4 = .ok (.aload_n 0, 1) := by decide +kernel
theorem dX10_init_5 : decode cX10_init 5 = .ok (.sipush 4334, 3) := by decide +kernel
theorem dX10_init_8 : decode cX10_init 8 = .ok (.newarray .int, 2) := by decide +kernel
theorem dX10_init_10 : decode cX10_init 10 = .ok (.putfield 7, 3) := by decide +kernel
theorem dX10_init_13 : decode cX10_init 13 = .ok (.aload_n 0, 1) := by decide +kernel
theorem dX10_init_14 : decode cX10_init 14 = .ok (.iconst 2, 1) := by decide +kernel
theorem dX10_init_15 : decode cX10_init 15 = .ok (.newarray .boolean, 2) := by decide +kernel
theorem dX10_init_17 : decode cX10_init 17 = .ok (.putfield 13, 3) := by decide +kernel
theorem dX10_init_20 : decode cX10_init 20 = .ok (.aload_n 0, 1) := by decide +kernel
theorem dX10_init_21 : decode cX10_init 21 = .ok (.sipush 200, 3) := by decide +kernel
theorem dX10_init_24 : decode cX10_init 24 = .ok (.newarray .int, 2) := by decide +kernel
theorem dX10_init_26 : decode cX10_init 26 = .ok (.putfield 17, 3) := by decide +kernel
theorem dX10_init_29 : decode cX10_init 29 = .ok (.aload_n 0, 1) := by decide +kernel
theorem dX10_init_30 : decode cX10_init 30 = .ok (.sipush 400, 3) := by decide +kernel
theorem dX10_init_33 : decode cX10_init 33 = .ok (.newarray .boolean, 2) := by decide +kernel
theorem dX10_init_35 : decode cX10_init 35 = .ok (.putfield 20, 3) := by decide +kernel
theorem dX10_init_38 : decode cX10_init 38 = .ok (.aload_n 0, 1) := by decide +kernel
theorem dX10_init_39 : decode cX10_init 39 = .ok (.bipush 6, 2) := by decide +kernel
theorem dX10_init_41 : decode cX10_init 41 = .ok (.newarray .int, 2) := by decide +kernel
theorem dX10_init_43 : decode cX10_init 43 = .ok (.putfield 23, 3) := by decide +kernel
theorem dX10_init_46 : decode cX10_init 46 = .ok (.aload_n 0, 1) := by decide +kernel
theorem dX10_init_47 : decode cX10_init 47 = .ok (.bipush 16, 2) := by decide +kernel
theorem dX10_init_49 : decode cX10_init 49 = .ok (.newarray .int, 2) := by decide +kernel
theorem dX10_init_51 : decode cX10_init 51 = .ok (.dup, 1) := by decide +kernel
theorem dX10_init_52 : decode cX10_init 52 = .ok (.iconst 0, 1) := by decide +kernel
theorem dX10_init_53 : decode cX10_init 53 = .ok (.bipush 97, 2) := by decide +kernel
theorem dX10_init_55 : decode cX10_init 55 = .ok (.iastore, 1) := by decide +kernel
theorem dX10_init_56 : decode cX10_init 56 = .ok (.dup, 1) := by decide +kernel
theorem dX10_init_57 : decode cX10_init 57 = .ok (.iconst 1, 1) := by decide +kernel
theorem dX10_init_58 : decode cX10_init 58 = .ok (.bipush 108, 2) := by decide +kernel
theorem dX10_init_60 : decode cX10_init 60 = .ok (.iastore, 1) := by decide +kernel
theorem dX10_init_61 : decode cX10_init 61 = .ok (.dup, 1) := by decide +kernel
theorem dX10_init_62 : decode cX10_init 62 = .ok (.iconst 2, 1) := by decide +kernel
theorem dX10_init_63 : decode cX10_init 63 = .ok (.bipush 108, 2) := by decide +kernel
theorem dX10_init_65 : decode cX10_init 65 = .ok (.iastore, 1) := by decide +kernel
theorem dX10_init_66 : decode cX10_init 66 = .ok (.dup, 1) := by decide +kernel
theorem dX10_init_67 : decode cX10_init 67 = .ok (.iconst 3, 1) := by decide +kernel
theorem dX10_init_68 : decode cX10_init 68 = .ok (.iconst 0, 1) := by decide +kernel
theorem dX10_init_69 : decode cX10_init 69 = .ok (.iastore, 1) := by decide +kernel
theorem dX10_init_70 : decode cX10_init 70 = .ok (.dup, 1) := by decide +kernel
theorem dX10_init_71 : decode cX10_init 71 = .ok (.iconst 4, 1) := by decide +kernel
theorem dX10_init_72 : decode cX10_init 72 = .ok (.bipush 108, 2) := by decide +kernel
theorem dX10_init_74 : decode cX10_init 74 = .ok (.iastore, 1) := by decide +kernel
theorem dX10_init_75 : decode cX10_init 75 = .ok (.dup, 1) := by decide +kernel
theorem dX10_init_76 : decode cX10_init 76 = .ok (.iconst 5, 1) := by decide +kernel
theorem dX10_init_77 : decode cX10_init 77 = .ok (.bipush 97, 2) := by decide +kernel
theorem dX10_init_79 : decode cX10_init 79 = .ok (.iastore, 1) := by decide +kernel
theorem dX10_init_80 : decode cX10_init 80 = .ok (.dup, 1) := by decide +kernel
theorem dX10_init_81 : decode cX10_init 81 = .ok (.bipush 6, 2) := by decide +kernel
theorem dX10_init_83 : decode cX10_init 83 = .ok (.bipush 119, 2) := by decide +kernel
theorem dX10_init_85 : decode cX10_init 85 = .ok (.iastore, 1) := by decide +kernel
theorem dX10_init_86 : decode cX10_init 86 = .ok (.dup, 1) := by decide +kernel
theorem dX10_init_87 : decode cX10_init 87 = .ok (.bipush 7, 2) := by decide +kernel
theorem dX10_init_89 : decode cX10_init 89 = .ok (.iconst 0, 1) := by decide +kernel
theorem dX10_init_90 : decode cX10_init 90 = .ok (.iastore, 1) := by decide +kernel
theorem dX10_init_91 : decode cX10_init 91 = .ok (.dup, 1) := by decide +kernel
theorem dX10_init_92 : decode cX10_init 92 = .ok (.bipush 8, 2) := by decide +kernel
theorem dX10_init_94 : decode cX10_init 94 = .ok (.bipush 109, 2) := by decide +kernel
theorem dX10_init_96 : decode cX10_init 96 = .ok (.iastore, 1) := by decide +kernel
theorem dX10_init_97 : decode cX10_init 97 = .ok (.dup, 1) := by decide +kernel
theorem dX10_init_98 : decode cX10_init 98 = .ok (.bipush 9, 2) := by decide +kernel
theorem dX10_init_100 : decode cX10_init 100 = .ok (.bipush 101, 2) := by decide +kernel
theorem dX10_init_102 : decode cX10_init 102 = .ok (.iastore, 1) := by decide +kernel
theorem dX10_init_103 : decode cX10_init 103 = .ok (.dup, 1) := by decide +kernel
theorem dX10_init_104 : decode cX10_init 104 = .ok (.bipush 10, 2) := by decide +kernel
theorem dX10_init_106 : decode cX10_init 106 = .ok (.bipush 101, 2) := by decide +kernel
theorem dX10_init_108 : decode cX10_init 108 = .ok (.iastore, 1) := by decide +kernel
theorem dX10_init_109 : decode cX10_init 109 = .ok (.dup, 1) := by decide +kernel
theorem dX10_init_110 : decode cX10_init 110 = .ok (.bipush 11, 2) := by decide +kernel
theorem dX10_init_112 : decode cX10_init 112 = .ok (.bipush 116, 2) := by decide +kernel
theorem dX10_init_114 : decode cX10_init 114 = .ok (.iastore, 1) := by decide +kernel
theorem dX10_init_115 : decode cX10_init 115 = .ok (.dup, 1) := by decide +kernel
theorem dX10_init_116 : decode cX10_init 116 = .ok (.bipush 12, 2) := by decide +kernel
theorem dX10_init_118 : decode cX10_init 118 = .ok (.bipush 108, 2) := by decide +kernel
theorem dX10_init_120 : decode cX10_init 120 = .ok (.iastore, 1) := by decide +kernel
theorem dX10_init_121 : decode cX10_init 121 = .ok (.dup, 1) := by decide +kernel
theorem dX10_init_122 : decode cX10_init 122 = .ok (.bipush 13, 2) := by decide +kernel
theorem dX10_init_124 : decode cX10_init 124 = .ok (.bipush 111, 2) := by decide +kernel
theorem dX10_init_126 : decode cX10_init 126 = .ok (.iastore, 1) := by decide +kernel
theorem dX10_init_127 : decode cX10_init 127 = .ok (.dup, 1) := by decide +kernel
theorem dX10_init_128 : decode cX10_init 128 = .ok (.bipush 14, 2) := by decide +kernel
theorem dX10_init_130 : decode cX10_init 130 = .ok (.bipush 97, 2) := by decide +kernel
theorem dX10_init_132 : decode cX10_init 132 = .ok (.iastore, 1) := by decide +kernel
theorem dX10_init_133 : decode cX10_init 133 = .ok (.dup, 1) := by decide +kernel
theorem dX10_init_134 : decode cX10_init 134 = .ok (.bipush 15, 2) := by decide +kernel
theorem dX10_init_136 : decode cX10_init 136 = .ok (.bipush 110, 2) := by decide +kernel
theorem dX10_init_138 : decode cX10_init 138 = .ok (.iastore, 1) := by decide +kernel
theorem dX10_init_139 : decode cX10_init 139 = .ok (.putfield 26, 3) := by decide +kernel
theorem dX10_init_142 : decode cX10_init 142 = .ok (.aload_n 0, 1) := by decide +kernel
theorem dX10_init_143 : decode cX10_init 143 = .ok (.bipush 10, 2) := by decide +kernel
theorem dX10_init_145 : decode cX10_init 145 = .ok (.newarray .int, 2) := by decide +kernel
theorem dX10_init_147 : decode cX10_init 147 = .ok (.putfield 29, 3) := by decide +kernel
theorem dX10_init_150 : decode cX10_init 150 = .ok (.aload_n 0, 1) := by decide +kernel
theorem dX10_init_151 : decode cX10_init 151 = .ok (.bipush 10, 2) := by decide +kernel
theorem dX10_init_153 : decode cX10_init 153 = .ok (.newarray .int, 2) := by decide +kernel
theorem dX10_init_155 : decode cX10_init 155 = .ok (.putfield 32, 3) := by decide +kernel
theorem dX10_init_158 : decode cX10_init 158 = .ok (.aload_n 0, 1) := by decide +kernel
theorem dX10_init_159 : decode cX10_init 159 = .ok (.bipush 12, 2) := by decide +kernel
theorem dX10_init_161 : decode cX10_init 161 = .ok (.newarray .int, 2) := by decide +kernel
theorem dX10_init_163 : decode cX10_init 163 = .ok (.putfield 35, 3) := by decide +kernel
theorem dX10_init_166 : decode cX10_init 166 = .ok (.aload_n 0, 1) := by decide +kernel
theorem dX10_init_167 : decode cX10_init 167 = .ok (.bipush 12, 2) := by decide +kernel
theorem dX10_init_169 : decode cX10_init 169 = .ok (.newarray .int, 2) := by decide +kernel
theorem dX10_init_171 : decode cX10_init 171 = .ok (.putfield 38, 3) := by decide +kernel
theorem dX10_init_174 : decode cX10_init 174 = .ok (.aload_n 0, 1) := by decide +kernel
theorem dX10_init_175 : decode cX10_init 175 = .ok (.bipush 12, 2) := by decide +kernel
theorem dX10_init_177 : decode cX10_init 177 = .ok (.newarray .int, 2) := by decide +kernel
theorem dX10_init_179 : decode cX10_init 179 = .ok (.putfield 41, 3) := by decide +kernel
theorem dX10_init_182 : decode cX10_init 182 = .ok (.aload_n 0, 1) := by decide +kernel
theorem dX10_init_183 : decode cX10_init 183 = .ok (.iconst 3, 1) := by decide +kernel
theorem dX10_init_184 : decode cX10_init 184 = .ok (.newarray .int, 2) := by decide +kernel
theorem dX10_init_186 : decode cX10_init 186 = .ok (.putfield 44, 3) := by decide +kernel
theorem dX10_init_189 : decode cX10_init 189 = .ok (.aload_n 0, 1) := by decide +kernel
theorem dX10_init_190 : decode cX10_init 190 = .ok (.bipush 40, 2) := by decide +kernel
theorem dX10_init_192 : decode cX10_init 192 = .ok (.newarray .int, 2) := by decide +kernel
theorem dX10_init_194 : decode cX10_init 194 = .ok (.putfield 47, 3) := by decide +kernel
theorem dX10_init_197 : decode cX10_init 197 = .ok (.return_, 1) := by decide +kernel
set_option maxRecDepth 100000 in
theorem B_X10_init_0 {d : Nat} {h : AbH} {K : Option AbV → AbH → Prop} {x0 : Nat} (hh : ∀ q1 : Nat, ab_new h q1 → ∀ h2 : AbH, h2 = hsI h q1 (4334, fun _ => 0) → wpP h2 (some x0) 9 0 (vR (some q1)) (fun h5 => ∀ q6 : Nat, ab_new h5 q6 → ∀ h7 : AbH, h7 = hsZ h5 q6 (2, fun _ => 0) → wpP h7 (some x0) 9 2 (vR (some q6)) (fun h10 => ∀ q11 : Nat, ab_new h10 q11 → ∀ h12 : AbH, h12 = hsI h10 q11 (200, fun _ => 0) → wpP h12 (some x0) 9 3 (vR (some q11)) (fun h15 => ∀ q16 : Nat, ab_new h15 q16 → ∀ h17 : AbH, h17 = hsZ h15 q16 (400, fun _ => 0) → wpP h17 (some x0) 9 7 (vR (some q16)) (fun h20 => ∀ q21 : Nat, ab_new h20 q21 → ∀ h22 : AbH, h22 = hsI h20 q21 (6, fun _ => 0) → wpP h22 (some x0) 9 12 (vR (some q21)) (fun h25 => ∀ q26 : Nat, ab_new h25 q26 → ∀ h27 : AbH, h27 = hsI h25 q26 (16, fun _ => 0) → wpSI h27 (some q26) 0 97 (fun h30 => wpSI h30 (some q26) 1 108 (fun h31 => wpSI h31 (some q26) 2 108 (fun h32 => wpSI h32 (some q26) 3 0 (fun h33 => wpSI h33 (some q26) 4 108 (fun h34 => wpSI h34 (some q26) 5 97 (fun h35 => wpSI h35 (some q26) 6 119 (fun h36 => wpSI h36 (some q26) 7 0 (fun h37 => wpSI h37 (some q26) 8 109 (fun h38 => wpSI h38 (some q26) 9 101 (fun h39 => wpSI h39 (some q26) 10 101 (fun h40 => wpSI h40 (some q26) 11 116 (fun h41 => wpSI h41 (some q26) 12 108 (fun h42 => wpSI h42 (some q26) 13 111 (fun h43 => wpSI h43 (some q26) 14 97 (fun h44 => wpSI h44 (some q26) 15 110 (fun h45 => wpP h45 (some x0) 9 13 (vR (some q26)) (fun h46 => ∀ q47 : Nat, ab_new h46 q47 → ∀ h48 : AbH, h48 = hsI h46 q47 (10, fun _ => 0) → wpP h48 (some x0) 9 14 (vR (some q47)) (fun h51 => ∀ q52 : Nat, ab_new h51 q52 → ∀ h53 : AbH, h53 = hsI h51 q52 (10, fun _ => 0) → wpP h53 (some x0) 9 16 (vR (some q52)) (fun h56 => ∀ q57 : Nat, ab_new h56 q57 → ∀ h58 : AbH, h58 = hsI h56 q57 (12, fun _ => 0) → wpP h58 (some x0) 9 17 (vR (some q57)) (fun h61 => ∀ q62 : Nat, ab_new h61 q62 → ∀ h63 : AbH, h63 = hsI h61 q62 (12, fun _ => 0) → wpP h63 (some x0) 9 18 (vR (some q62)) (fun h66 => ∀ q67 : Nat, ab_new h66 q67 → ∀ h68 : AbH, h68 = hsI h66 q67 (12, fun _ => 0) → wpP h68 (some x0) 9 19 (vR (some q67)) (fun h71 => ∀ q72 : Nat, ab_new h71 q72 → ∀ h73 : AbH, h73 = hsI h71 q72 (3, fun _ => 0) → wpP h73 (some x0) 9 20 (vR (some q72)) (fun h76 => ∀ q77 : Nat, ab_new h76 q77 → ∀ h78 : AbH, h78 = hsI h76 q77 (40, fun _ => 0) → wpP h78 (some x0) 9 21 (vR (some q77)) (fun h81 => K none h81)))))))))))))))))))))))))))))) : Vx (d + 1) m_X10_init 13 5057 0 [some (vR (some x0))] [] h K := by
  refine rr_aload_n dX10_init_0 rfl rfl ?_
  refine rr_objInit dX10_init_1 rfl q_753 q_23 q_24 (by decide) ?_
  refine rr_aload_n dX10_init_4 rfl rfl ?_
  refine rr_sipush dX10_init_5 rfl ⟨by decide, by decide⟩ rfl ?_
  refine rr_newI (bc' := 12) (bs' := 723) (n := 4334) dX10_init_8 rfl q_58 rfl (by decide) (by decide) (by decide) (fun q1 hz => ?_)
  have hh := hh q1 hz _ rfl
  generalize hsI h q1 (4334, fun _ => 0) = h2 at hh ⊢
  refine rr_putF cf_X10 (j := 0) (by decide) dX10_init_10 rfl q_754 rfl rfl rfl (fty := .array (.int)) (by decide +kernel) (by first | rfl | exact rn_r _ _ (by first | exact Or.inl ⟨_, rfl⟩ | exact Or.inr ⟨_, rfl⟩)) (by first | rfl | exact rf_r _ _ (by first | exact Or.inl ⟨_, rfl⟩ | exact Or.inr ⟨_, rfl⟩)) hh (fun h5 hh => ?_)
  refine rr_aload_n dX10_init_13 rfl rfl ?_
  refine rr_iconst dX10_init_14 rfl ⟨by decide, by decide⟩ ?_
  refine rr_newZ (bc' := 11) (bs' := 721) (n := 2) dX10_init_15 rfl q_168 rfl (by decide) (by decide) (by decide) (fun q6 hz => ?_)
  have hh := hh q6 hz _ rfl
  generalize hsZ h5 q6 (2, fun _ => 0) = h7 at hh ⊢
  refine rr_putF cf_X10 (j := 2) (by decide) dX10_init_17 rfl q_756 rfl rfl rfl (fty := .array (.boolean)) (by decide +kernel) (by first | rfl | exact rn_r _ _ (by first | exact Or.inl ⟨_, rfl⟩ | exact Or.inr ⟨_, rfl⟩)) (by first | rfl | exact rf_r _ _ (by first | exact Or.inl ⟨_, rfl⟩ | exact Or.inr ⟨_, rfl⟩)) hh (fun h10 hh => ?_)
  refine rr_aload_n dX10_init_20 rfl rfl ?_
  refine rr_sipush dX10_init_21 rfl ⟨by decide, by decide⟩ rfl ?_
  refine rr_newI (bc' := 10) (bs' := 521) (n := 200) dX10_init_24 rfl q_58 rfl (by decide) (by decide) (by decide) (fun q11 hz => ?_)
  have hh := hh q11 hz _ rfl
  generalize hsI h10 q11 (200, fun _ => 0) = h12 at hh ⊢
  refine rr_putF cf_X10 (j := 3) (by decide) dX10_init_26 rfl q_757 rfl rfl rfl (fty := .array (.int)) (by decide +kernel) (by first | rfl | exact rn_r _ _ (by first | exact Or.inl ⟨_, rfl⟩ | exact Or.inr ⟨_, rfl⟩)) (by first | rfl | exact rf_r _ _ (by first | exact Or.inl ⟨_, rfl⟩ | exact Or.inr ⟨_, rfl⟩)) hh (fun h15 hh => ?_)
  refine rr_aload_n dX10_init_29 rfl rfl ?_
  refine rr_sipush dX10_init_30 rfl ⟨by decide, by decide⟩ rfl ?_
  refine rr_newZ (bc' := 9) (bs' := 121) (n := 400) dX10_init_33 rfl q_168 rfl (by decide) (by decide) (by decide) (fun q16 hz => ?_)
  have hh := hh q16 hz _ rfl
  generalize hsZ h15 q16 (400, fun _ => 0) = h17 at hh ⊢
  refine rr_putF cf_X10 (j := 7) (by decide) dX10_init_35 rfl q_761 rfl rfl rfl (fty := .array (.boolean)) (by decide +kernel) (by first | rfl | exact rn_r _ _ (by first | exact Or.inl ⟨_, rfl⟩ | exact Or.inr ⟨_, rfl⟩)) (by first | rfl | exact rf_r _ _ (by first | exact Or.inl ⟨_, rfl⟩ | exact Or.inr ⟨_, rfl⟩)) hh (fun h20 hh => ?_)
  refine rr_aload_n dX10_init_38 rfl rfl ?_
  refine rr_bipush dX10_init_39 rfl ⟨by decide, by decide⟩ rfl ?_
  refine rr_newI (bc' := 8) (bs' := 115) (n := 6) dX10_init_41 rfl q_58 rfl (by decide) (by decide) (by decide) (fun q21 hz => ?_)
  have hh := hh q21 hz _ rfl
  generalize hsI h20 q21 (6, fun _ => 0) = h22 at hh ⊢
  refine rr_putF cf_X10 (j := 12) (by decide) dX10_init_43 rfl q_766 rfl rfl rfl (fty := .array (.int)) (by decide +kernel) (by first | rfl | exact rn_r _ _ (by first | exact Or.inl ⟨_, rfl⟩ | exact Or.inr ⟨_, rfl⟩)) (by first | rfl | exact rf_r _ _ (by first | exact Or.inl ⟨_, rfl⟩ | exact Or.inr ⟨_, rfl⟩)) hh (fun h25 hh => ?_)
  refine rr_aload_n dX10_init_46 rfl rfl ?_
  refine rr_bipush dX10_init_47 rfl ⟨by decide, by decide⟩ rfl ?_
  refine rr_newI (bc' := 7) (bs' := 99) (n := 16) dX10_init_49 rfl q_58 rfl (by decide) (by decide) (by decide) (fun q26 hz => ?_)
  have hh := hh q26 hz _ rfl
  generalize hsI h25 q26 (16, fun _ => 0) = h27 at hh ⊢
  refine rr_dup dX10_init_51 rfl rfl ?_
  refine rr_iconst dX10_init_52 rfl ⟨by decide, by decide⟩ ?_
  refine rr_bipush dX10_init_53 rfl ⟨by decide, by decide⟩ rfl ?_
  refine rr_iast dX10_init_55 rfl hh (fun h30 hh => ?_)
  refine rr_dup dX10_init_56 rfl rfl ?_
  refine rr_iconst dX10_init_57 rfl ⟨by decide, by decide⟩ ?_
  refine rr_bipush dX10_init_58 rfl ⟨by decide, by decide⟩ rfl ?_
  refine rr_iast dX10_init_60 rfl hh (fun h31 hh => ?_)
  refine rr_dup dX10_init_61 rfl rfl ?_
  refine rr_iconst dX10_init_62 rfl ⟨by decide, by decide⟩ ?_
  refine rr_bipush dX10_init_63 rfl ⟨by decide, by decide⟩ rfl ?_
  refine rr_iast dX10_init_65 rfl hh (fun h32 hh => ?_)
  refine rr_dup dX10_init_66 rfl rfl ?_
  refine rr_iconst dX10_init_67 rfl ⟨by decide, by decide⟩ ?_
  refine rr_iconst dX10_init_68 rfl ⟨by decide, by decide⟩ ?_
  refine rr_iast dX10_init_69 rfl hh (fun h33 hh => ?_)
  refine rr_dup dX10_init_70 rfl rfl ?_
  refine rr_iconst dX10_init_71 rfl ⟨by decide, by decide⟩ ?_
  refine rr_bipush dX10_init_72 rfl ⟨by decide, by decide⟩ rfl ?_
  refine rr_iast dX10_init_74 rfl hh (fun h34 hh => ?_)
  refine rr_dup dX10_init_75 rfl rfl ?_
  refine rr_iconst dX10_init_76 rfl ⟨by decide, by decide⟩ ?_
  refine rr_bipush dX10_init_77 rfl ⟨by decide, by decide⟩ rfl ?_
  refine rr_iast dX10_init_79 rfl hh (fun h35 hh => ?_)
  refine rr_dup dX10_init_80 rfl rfl ?_
  refine rr_bipush dX10_init_81 rfl ⟨by decide, by decide⟩ rfl ?_
  refine rr_bipush dX10_init_83 rfl ⟨by decide, by decide⟩ rfl ?_
  refine rr_iast dX10_init_85 rfl hh (fun h36 hh => ?_)
  refine rr_dup dX10_init_86 rfl rfl ?_
  refine rr_bipush dX10_init_87 rfl ⟨by decide, by decide⟩ rfl ?_
  refine rr_iconst dX10_init_89 rfl ⟨by decide, by decide⟩ ?_
  refine rr_iast dX10_init_90 rfl hh (fun h37 hh => ?_)
  refine rr_dup dX10_init_91 rfl rfl ?_
  refine rr_bipush dX10_init_92 rfl ⟨by decide, by decide⟩ rfl ?_
  refine rr_bipush dX10_init_94 rfl ⟨by decide, by decide⟩ rfl ?_
  refine rr_iast dX10_init_96 rfl hh (fun h38 hh => ?_)
  refine rr_dup dX10_init_97 rfl rfl ?_
  refine rr_bipush dX10_init_98 rfl ⟨by decide, by decide⟩ rfl ?_
  refine rr_bipush dX10_init_100 rfl ⟨by decide, by decide⟩ rfl ?_
  refine rr_iast dX10_init_102 rfl hh (fun h39 hh => ?_)
  refine rr_dup dX10_init_103 rfl rfl ?_
  refine rr_bipush dX10_init_104 rfl ⟨by decide, by decide⟩ rfl ?_
  refine rr_bipush dX10_init_106 rfl ⟨by decide, by decide⟩ rfl ?_
  refine rr_iast dX10_init_108 rfl hh (fun h40 hh => ?_)
  refine rr_dup dX10_init_109 rfl rfl ?_
  refine rr_bipush dX10_init_110 rfl ⟨by decide, by decide⟩ rfl ?_
  refine rr_bipush dX10_init_112 rfl ⟨by decide, by decide⟩ rfl ?_
  refine rr_iast dX10_init_114 rfl hh (fun h41 hh => ?_)
  refine rr_dup dX10_init_115 rfl rfl ?_
  refine rr_bipush dX10_init_116 rfl ⟨by decide, by decide⟩ rfl ?_
  refine rr_bipush dX10_init_118 rfl ⟨by decide, by decide⟩ rfl ?_
  refine rr_iast dX10_init_120 rfl hh (fun h42 hh => ?_)
  refine rr_dup dX10_init_121 rfl rfl ?_
  refine rr_bipush dX10_init_122 rfl ⟨by decide, by decide⟩ rfl ?_
  refine rr_bipush dX10_init_124 rfl ⟨by decide, by decide⟩ rfl ?_
  refine rr_iast dX10_init_126 rfl hh (fun h43 hh => ?_)
  refine rr_dup dX10_init_127 rfl rfl ?_
  refine rr_bipush dX10_init_128 rfl ⟨by decide, by decide⟩ rfl ?_
  refine rr_bipush dX10_init_130 rfl ⟨by decide, by decide⟩ rfl ?_
  refine rr_iast dX10_init_132 rfl hh (fun h44 hh => ?_)
  refine rr_dup dX10_init_133 rfl rfl ?_
  refine rr_bipush dX10_init_134 rfl ⟨by decide, by decide⟩ rfl ?_
  refine rr_bipush dX10_init_136 rfl ⟨by decide, by decide⟩ rfl ?_
  refine rr_iast dX10_init_138 rfl hh (fun h45 hh => ?_)
  refine rr_putF cf_X10 (j := 13) (by decide) dX10_init_139 rfl q_767 rfl rfl rfl (fty := .array (.int)) (by decide +kernel) (by first | rfl | exact rn_r _ _ (by first | exact Or.inl ⟨_, rfl⟩ | exact Or.inr ⟨_, rfl⟩)) (by first | rfl | exact rf_r _ _ (by first | exact Or.inl ⟨_, rfl⟩ | exact Or.inr ⟨_, rfl⟩)) hh (fun h46 hh => ?_)
  refine rr_aload_n dX10_init_142 rfl rfl ?_
  refine rr_bipush dX10_init_143 rfl ⟨by decide, by decide⟩ rfl ?_
  refine rr_newI (bc' := 6) (bs' := 89) (n := 10) dX10_init_145 rfl q_58 rfl (by decide) (by decide) (by decide) (fun q47 hz => ?_)
  have hh := hh q47 hz _ rfl
  generalize hsI h46 q47 (10, fun _ => 0) = h48 at hh ⊢
  refine rr_putF cf_X10 (j := 14) (by decide) dX10_init_147 rfl q_768 rfl rfl rfl (fty := .array (.int)) (by decide +kernel) (by first | rfl | exact rn_r _ _ (by first | exact Or.inl ⟨_, rfl⟩ | exact Or.inr ⟨_, rfl⟩)) (by first | rfl | exact rf_r _ _ (by first | exact Or.inl ⟨_, rfl⟩ | exact Or.inr ⟨_, rfl⟩)) hh (fun h51 hh => ?_)
  refine rr_aload_n dX10_init_150 rfl rfl ?_
  refine rr_bipush dX10_init_151 rfl ⟨by decide, by decide⟩ rfl ?_
  refine rr_newI (bc' := 5) (bs' := 79) (n := 10) dX10_init_153 rfl q_58 rfl (by decide) (by decide) (by decide) (fun q52 hz => ?_)
  have hh := hh q52 hz _ rfl
  generalize hsI h51 q52 (10, fun _ => 0) = h53 at hh ⊢
  refine rr_putF cf_X10 (j := 16) (by decide) dX10_init_155 rfl q_770 rfl rfl rfl (fty := .array (.int)) (by decide +kernel) (by first | rfl | exact rn_r _ _ (by first | exact Or.inl ⟨_, rfl⟩ | exact Or.inr ⟨_, rfl⟩)) (by first | rfl | exact rf_r _ _ (by first | exact Or.inl ⟨_, rfl⟩ | exact Or.inr ⟨_, rfl⟩)) hh (fun h56 hh => ?_)
  refine rr_aload_n dX10_init_158 rfl rfl ?_
  refine rr_bipush dX10_init_159 rfl ⟨by decide, by decide⟩ rfl ?_
  refine rr_newI (bc' := 4) (bs' := 67) (n := 12) dX10_init_161 rfl q_58 rfl (by decide) (by decide) (by decide) (fun q57 hz => ?_)
  have hh := hh q57 hz _ rfl
  generalize hsI h56 q57 (12, fun _ => 0) = h58 at hh ⊢
  refine rr_putF cf_X10 (j := 17) (by decide) dX10_init_163 rfl q_771 rfl rfl rfl (fty := .array (.int)) (by decide +kernel) (by first | rfl | exact rn_r _ _ (by first | exact Or.inl ⟨_, rfl⟩ | exact Or.inr ⟨_, rfl⟩)) (by first | rfl | exact rf_r _ _ (by first | exact Or.inl ⟨_, rfl⟩ | exact Or.inr ⟨_, rfl⟩)) hh (fun h61 hh => ?_)
  refine rr_aload_n dX10_init_166 rfl rfl ?_
  refine rr_bipush dX10_init_167 rfl ⟨by decide, by decide⟩ rfl ?_
  refine rr_newI (bc' := 3) (bs' := 55) (n := 12) dX10_init_169 rfl q_58 rfl (by decide) (by decide) (by decide) (fun q62 hz => ?_)
  have hh := hh q62 hz _ rfl
  generalize hsI h61 q62 (12, fun _ => 0) = h63 at hh ⊢
  refine rr_putF cf_X10 (j := 18) (by decide) dX10_init_171 rfl q_772 rfl rfl rfl (fty := .array (.int)) (by decide +kernel) (by first | rfl | exact rn_r _ _ (by first | exact Or.inl ⟨_, rfl⟩ | exact Or.inr ⟨_, rfl⟩)) (by first | rfl | exact rf_r _ _ (by first | exact Or.inl ⟨_, rfl⟩ | exact Or.inr ⟨_, rfl⟩)) hh (fun h66 hh => ?_)
  refine rr_aload_n dX10_init_174 rfl rfl ?_
  refine rr_bipush dX10_init_175 rfl ⟨by decide, by decide⟩ rfl ?_
  refine rr_newI (bc' := 2) (bs' := 43) (n := 12) dX10_init_177 rfl q_58 rfl (by decide) (by decide) (by decide) (fun q67 hz => ?_)
  have hh := hh q67 hz _ rfl
  generalize hsI h66 q67 (12, fun _ => 0) = h68 at hh ⊢
  refine rr_putF cf_X10 (j := 19) (by decide) dX10_init_179 rfl q_773 rfl rfl rfl (fty := .array (.int)) (by decide +kernel) (by first | rfl | exact rn_r _ _ (by first | exact Or.inl ⟨_, rfl⟩ | exact Or.inr ⟨_, rfl⟩)) (by first | rfl | exact rf_r _ _ (by first | exact Or.inl ⟨_, rfl⟩ | exact Or.inr ⟨_, rfl⟩)) hh (fun h71 hh => ?_)
  refine rr_aload_n dX10_init_182 rfl rfl ?_
  refine rr_iconst dX10_init_183 rfl ⟨by decide, by decide⟩ ?_
  refine rr_newI (bc' := 1) (bs' := 40) (n := 3) dX10_init_184 rfl q_58 rfl (by decide) (by decide) (by decide) (fun q72 hz => ?_)
  have hh := hh q72 hz _ rfl
  generalize hsI h71 q72 (3, fun _ => 0) = h73 at hh ⊢
  refine rr_putF cf_X10 (j := 20) (by decide) dX10_init_186 rfl q_774 rfl rfl rfl (fty := .array (.int)) (by decide +kernel) (by first | rfl | exact rn_r _ _ (by first | exact Or.inl ⟨_, rfl⟩ | exact Or.inr ⟨_, rfl⟩)) (by first | rfl | exact rf_r _ _ (by first | exact Or.inl ⟨_, rfl⟩ | exact Or.inr ⟨_, rfl⟩)) hh (fun h76 hh => ?_)
  refine rr_aload_n dX10_init_189 rfl rfl ?_
  refine rr_bipush dX10_init_190 rfl ⟨by decide, by decide⟩ rfl ?_
  refine rr_newI (bc' := 0) (bs' := 0) (n := 40) dX10_init_192 rfl q_58 rfl (by decide) (by decide) (by decide) (fun q77 hz => ?_)
  have hh := hh q77 hz _ rfl
  generalize hsI h76 q77 (40, fun _ => 0) = h78 at hh ⊢
  refine rr_putF cf_X10 (j := 21) (by decide) dX10_init_194 rfl q_775 rfl rfl rfl (fty := .array (.int)) (by decide +kernel) (by first | rfl | exact rn_r _ _ (by first | exact Or.inl ⟨_, rfl⟩ | exact Or.inr ⟨_, rfl⟩)) (by first | rfl | exact rf_r _ _ (by first | exact Or.inl ⟨_, rfl⟩ | exact Or.inr ⟨_, rfl⟩)) hh (fun h81 hh => ?_)
  exact rr_vret dX10_init_197 rfl hh
theorem dX10_in_0 : decode cX10_in 0 = .ok (.lload_n 0, 1) := by decide +kernel
theorem dX10_in_1 : decode cX10_in 1 = .ok (.lload_n 2, 1) := by decide +kernel
theorem dX10_in_2 : decode cX10_in 2 = .ok (.lcmp, 1) := by decide +kernel
theorem dX10_in_3 : decode cX10_in 3 = .ok (.ifCond .lt 14, 3) := by decide +kernel
theorem dX10_in_6 : decode cX10_in 6 = .ok (.lload_n 0, 1) := by decide +kernel
theorem dX10_in_7 : decode cX10_in 7 = .ok (.lload 4, 2) := by decide +kernel
theorem dX10_in_9 : decode cX10_in 9 = .ok (.lcmp, 1) := by decide +kernel
theorem dX10_in_10 : decode cX10_in 10 = .ok (.ifCond .gt 7, 3) := by decide +kernel
theorem dX10_in_13 : decode cX10_in 13 = .ok (.iconst 1, 1) := by decide +kernel
theorem dX10_in_14 : decode cX10_in 14 = .ok (.goto 4, 3) := by decide +kernel
theorem dX10_in_17 : decode cX10_in 17 = .ok (.iconst 0, 1) := by decide +kernel
theorem dX10_in_18 : decode cX10_in 18 = .ok (.ireturn, 1) := by decide +kernel
set_option maxRecDepth 100000 in
theorem B_X10_in_0 {d : Nat} {h : AbH} {K : Option AbV → AbH → Prop} {x0 : Int} {x2 : Int} {x4 : Int} (hh : ((x0 < x2 → K (some (vI 0)) h) ∧ (¬ (x0 < x2) → ((x4 < x0 → K (some (vI 0)) h) ∧ (¬ (x4 < x0) → K (some (vI 1)) h))))) : Vx (d + 1) m_X10_in 0 0 0 [some (vL x0), none, some (vL x2), none, some (vL x4), none] [] h K := by
  refine rr_lload_n dX10_in_0 rfl rfl ?_
  refine rr_lload_n dX10_in_1 rfl rfl ?_
  refine rr_lcmp dX10_in_2 rfl ?_
  refine rr_if_lt (tgt := 17) dX10_in_3 rfl (by decide) (fun hc3 => ?_) (fun hc3 => ?_)
  · have hh := hh.1 (lcm_lt.mp hc3)
    refine rr_iconst dX10_in_17 rfl ⟨by decide, by decide⟩ ?_
    exact rr_zret dX10_in_18 rfl rfl hh
  · have hh := hh.2 (fun z => hc3 (lcm_lt.mpr z))
    refine rr_lload_n dX10_in_6 rfl rfl ?_
    refine rr_lload dX10_in_7 rfl rfl ?_
    refine rr_lcmp dX10_in_9 rfl ?_
    refine rr_if_gt (tgt := 17) dX10_in_10 rfl (by decide) (fun hc10 => ?_) (fun hc10 => ?_)
    · have hh := hh.1 (lcm_gt.mp hc10)
      refine rr_iconst dX10_in_17 rfl ⟨by decide, by decide⟩ ?_
      exact rr_zret dX10_in_18 rfl rfl hh
    · have hh := hh.2 (fun z => hc10 (lcm_gt.mpr z))
      refine rr_iconst dX10_in_13 rfl ⟨by decide, by decide⟩ ?_
      refine rr_goto (pc' := 18) dX10_in_14 (by decide) ?_
      exact rr_zret dX10_in_18 rfl rfl hh
theorem dX10_isTongue_0 : decode cX10_isTongue 0 = .ok (.iload_n 0, 1) := by decide +kernel
theorem dX10_isTongue_1 : decode cX10_isTongue 1 = .ok (.i2l, 1) := by decide +kernel
theorem dX10_isTongue_2 : decode cX10_isTongue 2 = .ok (.lconst 0, 1) := by decide +kernel
theorem dX10_isTongue_3 : decode cX10_isTongue 3 = .ok (.ldc2_w 50, 3) := by decide +kernel
theorem dX10_isTongue_6 : decode cX10_isTongue 6 = .ok (.invokestatic 52, 3) := by decide +kernel
theorem dX10_isTongue_9 : decode cX10_isTongue 9 = .ok (.ireturn, 1) := by decide +kernel
set_option maxRecDepth 100000 in
theorem B_X10_isTongue_0 {d : Nat} {h : AbH} {K : Option AbV → AbH → Prop} {x0 : Int} (hh : Vm d m_X10_in [vL x0, vL 0, vL 3] h (kI (fun n2 h1 => ab_z01 n2 ∧ K (some (vI n2)) h1))) : Vx (d + 1) m_X10_isTongue 0 0 0 [some (vI x0)] [] h K := by
  refine rr_iload_n dX10_isTongue_0 rfl rfl ?_
  refine rr_i2l dX10_isTongue_1 rfl ?_
  refine rr_lconst (n := 0) dX10_isTongue_2 rfl ⟨by decide, by decide⟩ rfl ?_
  refine rr_ldc2 (n := 3) dX10_isTongue_3 rfl q_936 (by decide) ⟨by decide, by decide⟩ ?_
  refine rr_callS (bc' := 0) (bs' := 0) (av := [vL x0, vL 0, vL 3]) (st := []) mf_X10_in dX10_isTongue_6 rfl q_829 q_830 rfl (by decide) (Nat.le_refl _) (Nat.le_refl _) hh (rr_kI fun n2 h1 hh => ?_)
  obtain ⟨hz3, hh⟩ := hh
  exact rr_zret dX10_isTongue_9 rfl (zn_b hz3) hh
theorem dX10_areTongues_0 : decode cX10_areTongues 0 = .ok (.iload_n 0, 1) := by decide +kernel
theorem dX10_areTongues_1 : decode cX10_areTongues 1 = .ok (.invokestatic 56, 3) := by decide +kernel
theorem dX10_areTongues_4 : decode cX10_areTongues 4 = .ok (.ifCond .eq 19, 3) := by decide +kernel
theorem dX10_areTongues_7 : decode cX10_areTongues 7 = .ok (.iload_n 1, 1) := by decide +kernel
theorem dX10_areTongues_8 : decode cX10_areTongues 8 = .ok (.invokestatic 56, 3) := by decide +kernel
theorem dX10_areTongues_11 : decode cX10_areTongues 11 = .ok (.ifCond .eq 12, 3) := by decide +kernel
theorem dX10_areTongues_14 : decode cX10_areTongues 14 = .ok (.iload_n 0, 1) := by decide +kernel
theorem dX10_areTongues_15 : decode cX10_areTongues 15 = .ok (.iload_n 1, 1) := by decide +kernel
theorem dX10_areTongues_16 : decode cX10_areTongues 16 = .ok (.if_icmp .eq 7, 3) := by decide +kernel
theorem dX10_areTongues_19 : decode cX10_areTongues 19 = .ok (.iconst 1, 1) := by decide +kernel
theorem dX10_areTongues_20 : decode cX10_areTongues 20 = .ok (.goto 4, 3) := by decide +kernel
theorem dX10_areTongues_23 : decode cX10_areTongues 23 = .ok (.iconst 0, 1) := by decide +kernel
theorem dX10_areTongues_24 : decode cX10_areTongues 24 = .ok (.ireturn, 1) := by decide +kernel
set_option maxRecDepth 100000 in
theorem B_X10_areTongues_0 {d : Nat} {h : AbH} {K : Option AbV → AbH → Prop} {x0 : Int} {x1 : Int} (hh : Vm d m_X10_isTongue [vI x0] h (kI (fun n2 h1 => ((n2 = 0 → K (some (vI 0)) h1) ∧ (¬ (n2 = 0) → Vm d m_X10_isTongue [vI x1] h1 (kI (fun n4 h3 => ((n4 = 0 → K (some (vI 0)) h3) ∧ (¬ (n4 = 0) → ((x0 = x1 → K (some (vI 0)) h3) ∧ (¬ (x0 = x1) → K (some (vI 1)) h3))))))))))) : Vx (d + 1) m_X10_areTongues 0 0 0 [some (vI x0), some (vI x1)] [] h K := by
  refine rr_iload_n dX10_areTongues_0 rfl rfl ?_
  refine rr_callS (bc' := 0) (bs' := 0) (av := [vI x0]) (st := []) mf_X10_isTongue dX10_areTongues_1 rfl q_933 q_934 rfl (by decide) (Nat.le_refl _) (Nat.le_refl _) hh (rr_kI fun n2 h1 hh => ?_)
  refine rr_if_eq (tgt := 23) dX10_areTongues_4 rfl (by decide) (fun hc4 => ?_) (fun hc4 => ?_)
  · have hh := hh.1 hc4
    refine rr_iconst dX10_areTongues_23 rfl ⟨by decide, by decide⟩ ?_
    exact rr_zret dX10_areTongues_24 rfl rfl hh
  · have hh := hh.2 hc4
    refine rr_iload_n dX10_areTongues_7 rfl rfl ?_
    refine rr_callS (bc' := 0) (bs' := 0) (av := [vI x1]) (st := []) mf_X10_isTongue dX10_areTongues_8 rfl q_933 q_934 rfl (by decide) (Nat.le_refl _) (Nat.le_refl _) hh (rr_kI fun n4 h3 hh => ?_)
    refine rr_if_eq (tgt := 23) dX10_areTongues_11 rfl (by decide) (fun hc11 => ?_) (fun hc11 => ?_)
    · have hh := hh.1 hc11
      refine rr_iconst dX10_areTongues_23 rfl ⟨by decide, by decide⟩ ?_
      exact rr_zret dX10_areTongues_24 rfl rfl hh
    · have hh := hh.2 hc11
      refine rr_iload_n dX10_areTongues_14 rfl rfl ?_
      refine rr_iload_n dX10_areTongues_15 rfl rfl ?_
      refine rr_icmp_eq (tgt := 23) dX10_areTongues_16 rfl (by decide) (fun hc16 => ?_) (fun hc16 => ?_)
      · have hh := hh.1 hc16
        refine rr_iconst dX10_areTongues_23 rfl ⟨by decide, by decide⟩ ?_
        exact rr_zret dX10_areTongues_24 rfl rfl hh
      · have hh := hh.2 hc16
        refine rr_iconst dX10_areTongues_19 rfl ⟨by decide, by decide⟩ ?_
        refine rr_goto (pc' := 24) dX10_areTongues_20 (by decide) ?_
        exact rr_zret dX10_areTongues_24 rfl rfl hh
theorem dX10_isLaw_0 : decode cX10_isLaw 0 = .ok (.iload_n 1, 1) := by decide +kernel
theorem dX10_isLaw_1 : decode cX10_isLaw 1 = .ok (.i2l, 1) := by decide +kernel
theorem dX10_isLaw_2 : decode cX10_isLaw 2 = .ok (.lconst 0, 1) := by decide +kernel
theorem dX10_isLaw_3 : decode cX10_isLaw 3 = .ok (.aload_n 0, 1) := by decide +kernel
theorem dX10_isLaw_4 : decode cX10_isLaw 4 = .ok (.getfield 7, 3) := by decide +kernel
theorem dX10_isLaw_7 : decode cX10_isLaw 7 = .ok (.iconst 0, 1) := by decide +kernel
theorem dX10_isLaw_8 : decode cX10_isLaw 8 = .ok (.iaload, 1) := by decide +kernel
theorem dX10_isLaw_9 : decode cX10_isLaw 9 = .ok (.iconst 1, 1) := by decide +kernel
theorem dX10_isLaw_10 : decode cX10_isLaw 10 = .ok (.isub, 1) := by decide +kernel
theorem dX10_isLaw_11 : decode cX10_isLaw 11 = .ok (.i2l, 1) := by decide +kernel
theorem dX10_isLaw_12 : decode cX10_isLaw 12 = .ok (.invokestatic 52, 3) := by decide +kernel
theorem dX10_isLaw_15 : decode cX10_isLaw 15 = .ok (.ireturn, 1) := by decide +kernel
set_option maxRecDepth 100000 in
theorem B_X10_isLaw_0 {d : Nat} {h : AbH} {K : Option AbV → AbH → Prop} {x0 : Nat} {x1 : Int} (hh : wpGR h (some x0) 9 0 (fun r1 => wpLI h r1 0 (fun n2 => in32 (n2 - 1) ∧ Vm d m_X10_in [vL x1, vL 0, vL (n2 - 1)] h (kI (fun n5 h4 => ab_z01 n5 ∧ K (some (vI n5)) h4))))) : Vx (d + 1) m_X10_isLaw 0 0 0 [some (vR (some x0)), some (vI x1)] [] h K := by
  refine rr_iload_n dX10_isLaw_0 rfl rfl ?_
  refine rr_i2l dX10_isLaw_1 rfl ?_
  refine rr_lconst (n := 0) dX10_isLaw_2 rfl ⟨by decide, by decide⟩ rfl ?_
  refine rr_aload_n dX10_isLaw_3 rfl rfl ?_
  refine rr_getR cf_X10 (j := 0) (by decide) dX10_isLaw_4 rfl q_754 hh (fun r1 hh => ?_)
  refine rr_iconst dX10_isLaw_7 rfl ⟨by decide, by decide⟩ ?_
  refine rr_iald dX10_isLaw_8 rfl hh (fun n2 hh => ?_)
  refine rr_iconst dX10_isLaw_9 rfl ⟨by decide, by decide⟩ ?_
  obtain ⟨hz3, hh⟩ := hh
  refine rr_isub dX10_isLaw_10 rfl hz3 ?_
  refine rr_i2l dX10_isLaw_11 rfl ?_
  refine rr_callS (bc' := 0) (bs' := 0) (av := [vL x1, vL 0, vL (n2 - 1)]) (st := []) mf_X10_in dX10_isLaw_12 rfl q_829 q_830 rfl (by decide) (Nat.le_refl _) (Nat.le_refl _) hh (rr_kI fun n5 h4 hh => ?_)
  obtain ⟨hz6, hh⟩ := hh
  exact rr_zret dX10_isLaw_15 rfl (zn_b hz6) hh
theorem dX10_isLoan_0 : decode cX10_isLoan 0 = .ok (.iload_n 1, 1) := by decide +kernel
theorem dX10_isLoan_1 : decode cX10_isLoan 1 = .ok (.i2l, 1) := by decide +kernel
theorem dX10_isLoan_2 : decode cX10_isLoan 2 = .ok (.lconst 0, 1) := by decide +kernel
theorem dX10_isLoan_3 : decode cX10_isLoan 3 = .ok (.aload_n 0, 1) := by decide +kernel
theorem dX10_isLoan_4 : decode cX10_isLoan 4 = .ok (.getfield 7, 3) := by decide +kernel
theorem dX10_isLoan_7 : decode cX10_isLoan 7 = .ok (.iconst 1, 1) := by decide +kernel
theorem dX10_isLoan_8 : decode cX10_isLoan 8 = .ok (.iaload, 1) := by decide +kernel
theorem dX10_isLoan_9 : decode cX10_isLoan 9 = .ok (.iconst 1, 1) := by decide +kernel
theorem dX10_isLoan_10 : decode cX10_isLoan 10 = .ok (.isub, 1) := by decide +kernel
theorem dX10_isLoan_11 : decode cX10_isLoan 11 = .ok (.i2l, 1) := by decide +kernel
theorem dX10_isLoan_12 : decode cX10_isLoan 12 = .ok (.invokestatic 52, 3) := by decide +kernel
theorem dX10_isLoan_15 : decode cX10_isLoan 15 = .ok (.ireturn, 1) := by decide +kernel
set_option maxRecDepth 100000 in
theorem B_X10_isLoan_0 {d : Nat} {h : AbH} {K : Option AbV → AbH → Prop} {x0 : Nat} {x1 : Int} (hh : wpGR h (some x0) 9 0 (fun r1 => wpLI h r1 1 (fun n2 => in32 (n2 - 1) ∧ Vm d m_X10_in [vL x1, vL 0, vL (n2 - 1)] h (kI (fun n5 h4 => ab_z01 n5 ∧ K (some (vI n5)) h4))))) : Vx (d + 1) m_X10_isLoan 0 0 0 [some (vR (some x0)), some (vI x1)] [] h K := by
  refine rr_iload_n dX10_isLoan_0 rfl rfl ?_
  refine rr_i2l dX10_isLoan_1 rfl ?_
  refine rr_lconst (n := 0) dX10_isLoan_2 rfl ⟨by decide, by decide⟩ rfl ?_
  refine rr_aload_n dX10_isLoan_3 rfl rfl ?_
  refine rr_getR cf_X10 (j := 0) (by decide) dX10_isLoan_4 rfl q_754 hh (fun r1 hh => ?_)
  refine rr_iconst dX10_isLoan_7 rfl ⟨by decide, by decide⟩ ?_
  refine rr_iald dX10_isLoan_8 rfl hh (fun n2 hh => ?_)
  refine rr_iconst dX10_isLoan_9 rfl ⟨by decide, by decide⟩ ?_
  obtain ⟨hz3, hh⟩ := hh
  refine rr_isub dX10_isLoan_10 rfl hz3 ?_
  refine rr_i2l dX10_isLoan_11 rfl ?_
  refine rr_callS (bc' := 0) (bs' := 0) (av := [vL x1, vL 0, vL (n2 - 1)]) (st := []) mf_X10_in dX10_isLoan_12 rfl q_829 q_830 rfl (by decide) (Nat.le_refl _) (Nat.le_refl _) hh (rr_kI fun n5 h4 hh => ?_)
  obtain ⟨hz6, hh⟩ := hh
  exact rr_zret dX10_isLoan_15 rfl (zn_b hz6) hh
theorem dX10_isDate_0 : decode cX10_isDate 0 = .ok (.iload_n 0, 1) := by decide +kernel
theorem dX10_isDate_1 : decode cX10_isDate 1 = .ok (.i2l, 1) := by decide +kernel
theorem dX10_isDate_2 : decode cX10_isDate 2 = .ok (.lconst 0, 1) := by decide +kernel
theorem dX10_isDate_3 : decode cX10_isDate 3 = .ok (.ldc2_w 60, 3) := by decide +kernel
theorem dX10_isDate_6 : decode cX10_isDate 6 = .ok (.invokestatic 52, 3) := by decide +kernel
theorem dX10_isDate_9 : decode cX10_isDate 9 = .ok (.ireturn, 1) := by decide +kernel
set_option maxRecDepth 100000 in
theorem B_X10_isDate_0 {d : Nat} {h : AbH} {K : Option AbV → AbH → Prop} {x0 : Int} (hh : Vm d m_X10_in [vL x0, vL 0, vL 99] h (kI (fun n2 h1 => ab_z01 n2 ∧ K (some (vI n2)) h1))) : Vx (d + 1) m_X10_isDate 0 0 0 [some (vI x0)] [] h K := by
  refine rr_iload_n dX10_isDate_0 rfl rfl ?_
  refine rr_i2l dX10_isDate_1 rfl ?_
  refine rr_lconst (n := 0) dX10_isDate_2 rfl ⟨by decide, by decide⟩ rfl ?_
  refine rr_ldc2 (n := 99) dX10_isDate_3 rfl q_886 (by decide) ⟨by decide, by decide⟩ ?_
  refine rr_callS (bc' := 0) (bs' := 0) (av := [vL x0, vL 0, vL 99]) (st := []) mf_X10_in dX10_isDate_6 rfl q_829 q_830 rfl (by decide) (Nat.le_refl _) (Nat.le_refl _) hh (rr_kI fun n2 h1 hh => ?_)
  obtain ⟨hz3, hh⟩ := hh
  exact rr_zret dX10_isDate_9 rfl (zn_b hz3) hh
theorem dX10_lawOf_0 : decode cX10_lawOf 0 = .ok (.aload_n 0, 1) := by decide +kernel
theorem dX10_lawOf_1 : decode cX10_lawOf 1 = .ok (.getfield 7, 3) := by decide +kernel
theorem dX10_lawOf_4 : decode cX10_lawOf 4 = .ok (.iconst 2, 1) := by decide +kernel
theorem dX10_lawOf_5 : decode cX10_lawOf 5 = .ok (.bipush 6, 2) := by decide +kernel
theorem dX10_lawOf_7 : decode cX10_lawOf 7 = .ok (.iload_n 1, 1) := by decide +kernel
theorem dX10_lawOf_8 : decode cX10_lawOf 8 = .ok (.imul, 1) := by decide +kernel
theorem dX10_lawOf_9 : decode cX10_lawOf 9 = .ok (.iadd, 1) := by decide +kernel
theorem dX10_lawOf_10 : decode cX10_lawOf 10 = .ok (.iload_n 2, 1) := by decide +kernel
theorem dX10_lawOf_11 : decode cX10_lawOf 11 = .ok (.iadd, 1) := by decide +kernel
theorem dX10_lawOf_12 : decode cX10_lawOf 12 = .ok (.iaload, 1) := by decide +kernel
theorem dX10_lawOf_13 : decode cX10_lawOf 13 = .ok (.ireturn, 1) := by decide +kernel
set_option maxRecDepth 100000 in
theorem B_X10_lawOf_0 {d : Nat} {h : AbH} {K : Option AbV → AbH → Prop} {x0 : Nat} {x1 : Int} {x2 : Int} (hh : wpGR h (some x0) 9 0 (fun r1 => in32 (6 * x1) ∧ in32 (2 + (6 * x1)) ∧ in32 ((2 + (6 * x1)) + x2) ∧ wpLI h r1 ((2 + (6 * x1)) + x2) (fun n5 => K (some (vI n5)) h))) : Vx (d + 1) m_X10_lawOf 0 0 0 [some (vR (some x0)), some (vI x1), some (vI x2)] [] h K := by
  refine rr_aload_n dX10_lawOf_0 rfl rfl ?_
  refine rr_getR cf_X10 (j := 0) (by decide) dX10_lawOf_1 rfl q_754 hh (fun r1 hh => ?_)
  refine rr_iconst dX10_lawOf_4 rfl ⟨by decide, by decide⟩ ?_
  refine rr_bipush dX10_lawOf_5 rfl ⟨by decide, by decide⟩ rfl ?_
  refine rr_iload_n dX10_lawOf_7 rfl rfl ?_
  obtain ⟨hz2, hh⟩ := hh
  refine rr_imul dX10_lawOf_8 rfl hz2 ?_
  obtain ⟨hz3, hh⟩ := hh
  refine rr_iadd dX10_lawOf_9 rfl hz3 ?_
  refine rr_iload_n dX10_lawOf_10 rfl rfl ?_
  obtain ⟨hz4, hh⟩ := hh
  refine rr_iadd dX10_lawOf_11 rfl hz4 ?_
  refine rr_iald dX10_lawOf_12 rfl hh (fun n5 hh => ?_)
  exact rr_iret dX10_lawOf_13 rfl hh
theorem dX10_loanAt_0 : decode cX10_loanAt 0 = .ok (.sipush 130, 3) := by decide +kernel
theorem dX10_loanAt_3 : decode cX10_loanAt 3 = .ok (.bipush 22, 2) := by decide +kernel
theorem dX10_loanAt_5 : decode cX10_loanAt 5 = .ok (.iload_n 0, 1) := by decide +kernel
theorem dX10_loanAt_6 : decode cX10_loanAt 6 = .ok (.imul, 1) := by decide +kernel
theorem dX10_loanAt_7 : decode cX10_loanAt 7 = .ok (.iadd, 1) := by decide +kernel
theorem dX10_loanAt_8 : decode cX10_loanAt 8 = .ok (.ireturn, 1) := by decide +kernel
set_option maxRecDepth 100000 in
theorem B_X10_loanAt_0 {d : Nat} {h : AbH} {K : Option AbV → AbH → Prop} {x0 : Int} (hh : in32 (22 * x0) ∧ in32 (130 + (22 * x0)) ∧ K (some (vI (130 + (22 * x0)))) h) : Vx (d + 1) m_X10_loanAt 0 0 0 [some (vI x0)] [] h K := by
  refine rr_sipush dX10_loanAt_0 rfl ⟨by decide, by decide⟩ rfl ?_
  refine rr_bipush dX10_loanAt_3 rfl ⟨by decide, by decide⟩ rfl ?_
  refine rr_iload_n dX10_loanAt_5 rfl rfl ?_
  obtain ⟨hz1, hh⟩ := hh
  refine rr_imul dX10_loanAt_6 rfl hz1 ?_
  obtain ⟨hz2, hh⟩ := hh
  refine rr_iadd dX10_loanAt_7 rfl hz2 ?_
  exact rr_iret dX10_loanAt_8 rfl hh
theorem dX10_meetAt_0 : decode cX10_meetAt 0 = .ok (.bipush 98, 2) := by decide +kernel
theorem dX10_meetAt_2 : decode cX10_meetAt 2 = .ok (.iconst 2, 1) := by decide +kernel
theorem dX10_meetAt_3 : decode cX10_meetAt 3 = .ok (.iconst 4, 1) := by decide +kernel
theorem dX10_meetAt_4 : decode cX10_meetAt 4 = .ok (.iload_n 0, 1) := by decide +kernel
theorem dX10_meetAt_5 : decode cX10_meetAt 5 = .ok (.imul, 1) := by decide +kernel
theorem dX10_meetAt_6 : decode cX10_meetAt 6 = .ok (.iload_n 1, 1) := by decide +kernel
theorem dX10_meetAt_7 : decode cX10_meetAt 7 = .ok (.iadd, 1) := by decide +kernel
theorem dX10_meetAt_8 : decode cX10_meetAt 8 = .ok (.imul, 1) := by decide +kernel
theorem dX10_meetAt_9 : decode cX10_meetAt 9 = .ok (.iadd, 1) := by decide +kernel
theorem dX10_meetAt_10 : decode cX10_meetAt 10 = .ok (.ireturn, 1) := by decide +kernel
set_option maxRecDepth 100000 in
theorem B_X10_meetAt_0 {d : Nat} {h : AbH} {K : Option AbV → AbH → Prop} {x0 : Int} {x1 : Int} (hh : in32 (4 * x0) ∧ in32 ((4 * x0) + x1) ∧ in32 (2 * ((4 * x0) + x1)) ∧ in32 (98 + (2 * ((4 * x0) + x1))) ∧ K (some (vI (98 + (2 * ((4 * x0) + x1))))) h) : Vx (d + 1) m_X10_meetAt 0 0 0 [some (vI x0), some (vI x1)] [] h K := by
  refine rr_bipush dX10_meetAt_0 rfl ⟨by decide, by decide⟩ rfl ?_
  refine rr_iconst dX10_meetAt_2 rfl ⟨by decide, by decide⟩ ?_
  refine rr_iconst dX10_meetAt_3 rfl ⟨by decide, by decide⟩ ?_
  refine rr_iload_n dX10_meetAt_4 rfl rfl ?_
  obtain ⟨hz1, hh⟩ := hh
  refine rr_imul dX10_meetAt_5 rfl hz1 ?_
  refine rr_iload_n dX10_meetAt_6 rfl rfl ?_
  obtain ⟨hz2, hh⟩ := hh
  refine rr_iadd dX10_meetAt_7 rfl hz2 ?_
  obtain ⟨hz3, hh⟩ := hh
  refine rr_imul dX10_meetAt_8 rfl hz3 ?_
  obtain ⟨hz4, hh⟩ := hh
  refine rr_iadd dX10_meetAt_9 rfl hz4 ?_
  exact rr_iret dX10_meetAt_10 rfl hh
theorem dX10_meetings_0 : decode cX10_meetings 0 = .ok (.iconst 0, 1) := by decide +kernel
theorem dX10_meetings_1 : decode cX10_meetings 1 = .ok (.istore_n 1, 1) := by decide +kernel
theorem dX10_meetings_2 : decode cX10_meetings 2 = .ok (.iconst 0, 1) := by decide +kernel
theorem dX10_meetings_3 : decode cX10_meetings 3 = .ok (.istore_n 2, 1) := by decide +kernel
theorem dX10_meetings_4 : decode cX10_meetings 4 = .ok (.iload_n 2, 1) := by decide +kernel
theorem dX10_meetings_5 : decode cX10_meetings 5 = .ok (.bipush 16, 2) := by decide +kernel
theorem dX10_meetings_7 : decode cX10_meetings 7 = .ok (.if_icmp .ge 31, 3) := by decide +kernel
theorem dX10_meetings_10 : decode cX10_meetings 10 = .ok (.iload_n 1, 1) := by decide +kernel
theorem dX10_meetings_11 : decode cX10_meetings 11 = .ok (.aload_n 0, 1) := by decide +kernel
theorem dX10_meetings_12 : decode cX10_meetings 12 = .ok (.getfield 7, 3) := by decide +kernel
theorem dX10_meetings_15 : decode cX10_meetings 15 = .ok (.bipush 98, 2) := by decide +kernel
theorem dX10_meetings_17 : decode cX10_meetings 17 = .ok (.iconst 2, 1) := by decide +kernel
theorem dX10_meetings_18 : decode cX10_meetings 18 = .ok (.iload_n 2, 1) := by decide +kernel
theorem dX10_meetings_19 : decode cX10_meetings 19 = .ok (.imul, 1) := by decide +kernel
theorem dX10_meetings_20 : decode cX10_meetings 20 = .ok (.iadd, 1) := by decide +kernel
theorem dX10_meetings_21 : decode cX10_meetings 21 = .ok (.iaload, 1) := by decide +kernel
theorem dX10_meetings_22 : decode cX10_meetings 22 = .ok (.ifCond .le 7, 3) := by decide +kernel
theorem dX10_meetings_25 : decode cX10_meetings 25 = .ok (.iconst 1, 1) := by decide +kernel
theorem dX10_meetings_26 : decode cX10_meetings 26 = .ok (.goto 4, 3) := by decide +kernel
theorem dX10_meetings_29 : decode cX10_meetings 29 = .ok (.iconst 0, 1) := by decide +kernel
theorem dX10_meetings_30 : decode cX10_meetings 30 = .ok (.iadd, 1) := by decide +kernel
theorem dX10_meetings_31 : decode cX10_meetings 31 = .ok (.istore_n 1, 1) := by decide +kernel
theorem dX10_meetings_32 : decode cX10_meetings 32 = .ok (.iinc 2 1, 3) := by decide +kernel
theorem dX10_meetings_35 : decode cX10_meetings 35 = .ok (.goto (-31), 3) := by decide +kernel
theorem dX10_meetings_38 : decode cX10_meetings 38 = .ok (.iload_n 1, 1) := by decide +kernel
theorem dX10_meetings_39 : decode cX10_meetings 39 = .ok (.ireturn, 1) := by decide +kernel
set_option maxRecDepth 100000 in
theorem B_X10_meetings_0 {d : Nat} {h : AbH} {K : Option AbV → AbH → Prop} {x0 : Nat} (hh : Vx (d + 1) m_X10_meetings 0 0 4 [some (vR (some x0)), some (vI 0), some (vI 0)] [] h K) : Vx (d + 1) m_X10_meetings 0 0 0 [some (vR (some x0))] [] h K := by
  refine Vx.pad 2 [some (vR (some x0)), none, none] rfl ?_
  refine rr_iconst dX10_meetings_0 rfl ⟨by decide, by decide⟩ ?_
  refine rr_istore_n (ls' := [some (vR (some x0)), some (vI 0), none]) dX10_meetings_1 rfl (by decide) (fun _ z => by cases z) rfl ?_
  refine rr_iconst dX10_meetings_2 rfl ⟨by decide, by decide⟩ ?_
  refine rr_istore_n (ls' := [some (vR (some x0)), some (vI 0), some (vI 0)]) dX10_meetings_3 rfl (by decide) (fun _ z => by cases z) rfl ?_
  exact hh
set_option maxRecDepth 100000 in
theorem B_X10_meetings_4 {d : Nat} {h : AbH} {K : Option AbV → AbH → Prop} {x0 : Nat} {x1 : Int} {x2 : Int} {bc bs : Nat} (hh : ((16 ≤ x2 → K (some (vI x1)) h) ∧ (¬ (16 ≤ x2) → wpGR h (some x0) 9 0 (fun r1 => in32 (2 * x2) ∧ in32 (98 + (2 * x2)) ∧ wpLI h r1 (98 + (2 * x2)) (fun n4 => ((n4 ≤ 0 → in32 (x1 + 0) ∧ in32 (x2 + 1) ∧ Vx (d + 1) m_X10_meetings bc bs 4 [some (vR (some x0)), some (vI (x1 + 0)), some (vI (x2 + 1))] [] h K) ∧ (¬ (n4 ≤ 0) → in32 (x1 + 1) ∧ in32 (x2 + 1) ∧ Vx (d + 1) m_X10_meetings bc bs 4 [some (vR (some x0)), some (vI (x1 + 1)), some (vI (x2 + 1))] [] h K))))))) : Vx (d + 1) m_X10_meetings bc bs 4 [some (vR (some x0)), some (vI x1), some (vI x2)] [] h K := by
  refine rr_iload_n dX10_meetings_4 rfl rfl ?_
  refine rr_bipush dX10_meetings_5 rfl ⟨by decide, by decide⟩ rfl ?_
  refine rr_icmp_ge (tgt := 38) dX10_meetings_7 rfl (by decide) (fun hc7 => ?_) (fun hc7 => ?_)
  · have hh := hh.1 hc7
    refine rr_iload_n dX10_meetings_38 rfl rfl ?_
    exact rr_iret dX10_meetings_39 rfl hh
  · have hh := hh.2 hc7
    refine rr_iload_n dX10_meetings_10 rfl rfl ?_
    refine rr_aload_n dX10_meetings_11 rfl rfl ?_
    refine rr_getR cf_X10 (j := 0) (by decide) dX10_meetings_12 rfl q_754 hh (fun r1 hh => ?_)
    refine rr_bipush dX10_meetings_15 rfl ⟨by decide, by decide⟩ rfl ?_
    refine rr_iconst dX10_meetings_17 rfl ⟨by decide, by decide⟩ ?_
    refine rr_iload_n dX10_meetings_18 rfl rfl ?_
    obtain ⟨hz2, hh⟩ := hh
    refine rr_imul dX10_meetings_19 rfl hz2 ?_
    obtain ⟨hz3, hh⟩ := hh
    refine rr_iadd dX10_meetings_20 rfl hz3 ?_
    refine rr_iald dX10_meetings_21 rfl hh (fun n4 hh => ?_)
    refine rr_if_le (tgt := 29) dX10_meetings_22 rfl (by decide) (fun hc22 => ?_) (fun hc22 => ?_)
    · have hh := hh.1 hc22
      refine rr_iconst dX10_meetings_29 rfl ⟨by decide, by decide⟩ ?_
      obtain ⟨hz5, hh⟩ := hh
      refine rr_iadd dX10_meetings_30 rfl hz5 ?_
      refine rr_istore_n (ls' := [some (vR (some x0)), some (vI (x1 + 0)), some (vI x2)]) dX10_meetings_31 rfl (by decide) (fun _ z => by cases z) rfl ?_
      obtain ⟨hz6, hh⟩ := hh
      refine rr_iinc (ls' := [some (vR (some x0)), some (vI (x1 + 0)), some (vI (x2 + 1))]) dX10_meetings_32 rfl rfl (by decide) (fun _ z => by cases z) hz6 rfl ?_
      refine rr_goto (pc' := 4) dX10_meetings_35 (by decide) ?_
      exact hh
    · have hh := hh.2 hc22
      refine rr_iconst dX10_meetings_25 rfl ⟨by decide, by decide⟩ ?_
      refine rr_goto (pc' := 30) dX10_meetings_26 (by decide) ?_
      obtain ⟨hz7, hh⟩ := hh
      refine rr_iadd dX10_meetings_30 rfl hz7 ?_
      refine rr_istore_n (ls' := [some (vR (some x0)), some (vI (x1 + 1)), some (vI x2)]) dX10_meetings_31 rfl (by decide) (fun _ z => by cases z) rfl ?_
      obtain ⟨hz8, hh⟩ := hh
      refine rr_iinc (ls' := [some (vR (some x0)), some (vI (x1 + 1)), some (vI (x2 + 1))]) dX10_meetings_32 rfl rfl (by decide) (fun _ z => by cases z) hz8 rfl ?_
      refine rr_goto (pc' := 4) dX10_meetings_35 (by decide) ?_
      exact hh
theorem dX10_isMet_0 : decode cX10_isMet 0 = .ok (.iload_n 1, 1) := by decide +kernel
theorem dX10_isMet_1 : decode cX10_isMet 1 = .ok (.iload_n 2, 1) := by decide +kernel
theorem dX10_isMet_2 : decode cX10_isMet 2 = .ok (.invokestatic 62, 3) := by decide +kernel
theorem dX10_isMet_5 : decode cX10_isMet 5 = .ok (.istore 4, 2) := by decide +kernel
theorem dX10_isMet_7 : decode cX10_isMet 7 = .ok (.aload_n 0, 1) := by decide +kernel
theorem dX10_isMet_8 : decode cX10_isMet 8 = .ok (.getfield 7, 3) := by decide +kernel
theorem dX10_isMet_11 : decode cX10_isMet 11 = .ok (.iload 4, 2) := by decide +kernel
theorem dX10_isMet_13 : decode cX10_isMet 13 = .ok (.iaload, 1) := by decide +kernel
theorem dX10_isMet_14 : decode cX10_isMet 14 = .ok (.ifCond .le 35, 3) := by decide +kernel
theorem dX10_isMet_17 : decode cX10_isMet 17 = .ok (.iload_n 3, 1) := by decide +kernel
theorem dX10_isMet_18 : decode cX10_isMet 18 = .ok (.i2l, 1) := by decide +kernel
theorem dX10_isMet_19 : decode cX10_isMet 19 = .ok (.aload_n 0, 1) := by decide +kernel
theorem dX10_isMet_20 : decode cX10_isMet 20 = .ok (.getfield 7, 3) := by decide +kernel
theorem dX10_isMet_23 : decode cX10_isMet 23 = .ok (.iload 4, 2) := by decide +kernel
theorem dX10_isMet_25 : decode cX10_isMet 25 = .ok (.iaload, 1) := by decide +kernel
theorem dX10_isMet_26 : decode cX10_isMet 26 = .ok (.iconst 1, 1) := by decide +kernel
theorem dX10_isMet_27 : decode cX10_isMet 27 = .ok (.isub, 1) := by decide +kernel
theorem dX10_isMet_28 : decode cX10_isMet 28 = .ok (.i2l, 1) := by decide +kernel
theorem dX10_isMet_29 : decode cX10_isMet 29 = .ok (.aload_n 0, 1) := by decide +kernel
theorem dX10_isMet_30 : decode cX10_isMet 30 = .ok (.getfield 7, 3) := by decide +kernel
theorem dX10_isMet_33 : decode cX10_isMet 33 = .ok (.iload 4, 2) := by decide +kernel
theorem dX10_isMet_35 : decode cX10_isMet 35 = .ok (.iconst 1, 1) := by decide +kernel
theorem dX10_isMet_36 : decode cX10_isMet 36 = .ok (.iadd, 1) := by decide +kernel
theorem dX10_isMet_37 : decode cX10_isMet 37 = .ok (.iaload, 1) := by decide +kernel
theorem dX10_isMet_38 : decode cX10_isMet 38 = .ok (.i2l, 1) := by decide +kernel
theorem dX10_isMet_39 : decode cX10_isMet 39 = .ok (.invokestatic 52, 3) := by decide +kernel
theorem dX10_isMet_42 : decode cX10_isMet 42 = .ok (.ifCond .eq 7, 3) := by decide +kernel
theorem dX10_isMet_45 : decode cX10_isMet 45 = .ok (.iconst 1, 1) := by decide +kernel
theorem dX10_isMet_46 : decode cX10_isMet 46 = .ok (.goto 4, 3) := by decide +kernel
theorem dX10_isMet_49 : decode cX10_isMet 49 = .ok (.iconst 0, 1) := by decide +kernel
theorem dX10_isMet_50 : decode cX10_isMet 50 = .ok (.ireturn, 1) := by decide +kernel
set_option maxRecDepth 100000 in
theorem B_X10_isMet_0 {d : Nat} {h : AbH} {K : Option AbV → AbH → Prop} {x0 : Nat} {x1 : Int} {x2 : Int} {x3 : Int} (hh : Vm d m_X10_meetAt [vI x1, vI x2] h (kI (fun n2 h1 => wpGR h1 (some x0) 9 0 (fun r3 => wpLI h1 r3 n2 (fun n4 => ((n4 ≤ 0 → K (some (vI 0)) h1) ∧ (¬ (n4 ≤ 0) → wpGR h1 (some x0) 9 0 (fun r5 => wpLI h1 r5 n2 (fun n6 => in32 (n6 - 1) ∧ wpGR h1 (some x0) 9 0 (fun r8 => in32 (n2 + 1) ∧ wpLI h1 r8 (n2 + 1) (fun n10 => Vm d m_X10_in [vL x3, vL (n6 - 1), vL n10] h1 (kI (fun n12 h11 => ((n12 = 0 → K (some (vI 0)) h11) ∧ (¬ (n12 = 0) → K (some (vI 1)) h11))))))))))))))) : Vx (d + 1) m_X10_isMet 0 0 0 [some (vR (some x0)), some (vI x1), some (vI x2), some (vI x3)] [] h K := by
  refine Vx.pad 1 [some (vR (some x0)), some (vI x1), some (vI x2), some (vI x3), none] rfl ?_
  refine rr_iload_n dX10_isMet_0 rfl rfl ?_
  refine rr_iload_n dX10_isMet_1 rfl rfl ?_
  refine rr_callS (bc' := 0) (bs' := 0) (av := [vI x1, vI x2]) (st := []) mf_X10_meetAt dX10_isMet_2 rfl q_911 q_912 rfl (by decide) (Nat.le_refl _) (Nat.le_refl _) hh (rr_kI fun n2 h1 hh => ?_)
  refine rr_istore (ls' := [some (vR (some x0)), some (vI x1), some (vI x2), some (vI x3), some (vI n2)]) dX10_isMet_5 rfl (by decide) (fun _ z => by cases z) rfl ?_
  refine rr_aload_n dX10_isMet_7 rfl rfl ?_
  refine rr_getR cf_X10 (j := 0) (by decide) dX10_isMet_8 rfl q_754 hh (fun r3 hh => ?_)
  refine rr_iload dX10_isMet_11 rfl rfl ?_
  refine rr_iald dX10_isMet_13 rfl hh (fun n4 hh => ?_)
  refine rr_if_le (tgt := 49) dX10_isMet_14 rfl (by decide) (fun hc14 => ?_) (fun hc14 => ?_)
  · have hh := hh.1 hc14
    refine rr_iconst dX10_isMet_49 rfl ⟨by decide, by decide⟩ ?_
    exact rr_zret dX10_isMet_50 rfl rfl hh
  · have hh := hh.2 hc14
    refine rr_iload_n dX10_isMet_17 rfl rfl ?_
    refine rr_i2l dX10_isMet_18 rfl ?_
    refine rr_aload_n dX10_isMet_19 rfl rfl ?_
    refine rr_getR cf_X10 (j := 0) (by decide) dX10_isMet_20 rfl q_754 hh (fun r5 hh => ?_)
    refine rr_iload dX10_isMet_23 rfl rfl ?_
    refine rr_iald dX10_isMet_25 rfl hh (fun n6 hh => ?_)
    refine rr_iconst dX10_isMet_26 rfl ⟨by decide, by decide⟩ ?_
    obtain ⟨hz7, hh⟩ := hh
    refine rr_isub dX10_isMet_27 rfl hz7 ?_
    refine rr_i2l dX10_isMet_28 rfl ?_
    refine rr_aload_n dX10_isMet_29 rfl rfl ?_
    refine rr_getR cf_X10 (j := 0) (by decide) dX10_isMet_30 rfl q_754 hh (fun r8 hh => ?_)
    refine rr_iload dX10_isMet_33 rfl rfl ?_
    refine rr_iconst dX10_isMet_35 rfl ⟨by decide, by decide⟩ ?_
    obtain ⟨hz9, hh⟩ := hh
    refine rr_iadd dX10_isMet_36 rfl hz9 ?_
    refine rr_iald dX10_isMet_37 rfl hh (fun n10 hh => ?_)
    refine rr_i2l dX10_isMet_38 rfl ?_
    refine rr_callS (bc' := 0) (bs' := 0) (av := [vL x3, vL (n6 - 1), vL n10]) (st := []) mf_X10_in dX10_isMet_39 rfl q_829 q_830 rfl (by decide) (Nat.le_refl _) (Nat.le_refl _) hh (rr_kI fun n12 h11 hh => ?_)
    refine rr_if_eq (tgt := 49) dX10_isMet_42 rfl (by decide) (fun hc42 => ?_) (fun hc42 => ?_)
    · have hh := hh.1 hc42
      refine rr_iconst dX10_isMet_49 rfl ⟨by decide, by decide⟩ ?_
      exact rr_zret dX10_isMet_50 rfl rfl hh
    · have hh := hh.2 hc42
      refine rr_iconst dX10_isMet_45 rfl ⟨by decide, by decide⟩ ?_
      refine rr_goto (pc' := 50) dX10_isMet_46 (by decide) ?_
      exact rr_zret dX10_isMet_50 rfl rfl hh
theorem dX10_type_0 : decode cX10_type 0 = .ok (.iload_n 1, 1) := by decide +kernel
theorem dX10_type_1 : decode cX10_type 1 = .ok (.i2l, 1) := by decide +kernel
theorem dX10_type_2 : decode cX10_type 2 = .ok (.lconst 0, 1) := by decide +kernel
theorem dX10_type_3 : decode cX10_type 3 = .ok (.ldc2_w 66, 3) := by decide +kernel
theorem dX10_type_6 : decode cX10_type 6 = .ok (.invokestatic 52, 3) := by decide +kernel
theorem dX10_type_9 : decode cX10_type 9 = .ok (.ifCond .ne 6, 3) := by decide +kernel
theorem dX10_type_12 : decode cX10_type 12 = .ok (.bipush (-3), 2) := by decide +kernel
theorem dX10_type_14 : decode cX10_type 14 = .ok (.ireturn, 1) := by decide +kernel
theorem dX10_type_15 : decode cX10_type 15 = .ok (.aload_n 0, 1) := by decide +kernel
theorem dX10_type_16 : decode cX10_type 16 = .ok (.getfield 68, 3) := by decide +kernel
theorem dX10_type_19 : decode cX10_type 19 = .ok (.sipush 200, 3) := by decide +kernel
theorem dX10_type_22 : decode cX10_type 22 = .ok (.if_icmp .ne 6, 3) := by decide +kernel
theorem dX10_type_25 : decode cX10_type 25 = .ok (.bipush (-5), 2) := by decide +kernel
theorem dX10_type_27 : decode cX10_type 27 = .ok (.ireturn, 1) := by decide +kernel
theorem dX10_type_28 : decode cX10_type 28 = .ok (.aload_n 0, 1) := by decide +kernel
theorem dX10_type_29 : decode cX10_type 29 = .ok (.getfield 17, 3) := by decide +kernel
theorem dX10_type_32 : decode cX10_type 32 = .ok (.aload_n 0, 1) := by decide +kernel
theorem dX10_type_33 : decode cX10_type 33 = .ok (.getfield 68, 3) := by decide +kernel
theorem dX10_type_36 : decode cX10_type 36 = .ok (.iload_n 1, 1) := by decide +kernel
theorem dX10_type_37 : decode cX10_type 37 = .ok (.iastore, 1) := by decide +kernel
theorem dX10_type_38 : decode cX10_type 38 = .ok (.aload_n 0, 1) := by decide +kernel
theorem dX10_type_39 : decode cX10_type 39 = .ok (.dup, 1) := by decide +kernel
theorem dX10_type_40 : decode cX10_type 40 = .ok (.getfield 68, 3) := by decide +kernel
theorem dX10_type_43 : decode cX10_type 43 = .ok (.iconst 1, 1) := by decide +kernel
theorem dX10_type_44 : decode cX10_type 44 = .ok (.iadd, 1) := by decide +kernel
theorem dX10_type_45 : decode cX10_type 45 = .ok (.putfield 68, 3) := by decide +kernel
theorem dX10_type_48 : decode cX10_type 48 = .ok (.aload_n 0, 1) := by decide +kernel
theorem dX10_type_49 : decode cX10_type 49 = .ok (.getfield 68, 3) := by decide +kernel
theorem dX10_type_52 : decode cX10_type 52 = .ok (.ireturn, 1) := by decide +kernel
set_option maxRecDepth 100000 in
theorem B_X10_type_0 {d : Nat} {h : AbH} {K : Option AbV → AbH → Prop} {x0 : Nat} {x1 : Int} (hh : Vm d m_X10_in [vL x1, vL 0, vL 255] h (kI (fun n2 h1 => ((n2 ≠ 0 → wpGI h1 (some x0) 9 4 (fun n3 => ((n3 ≠ 200 → wpGR h1 (some x0) 9 3 (fun r4 => wpGI h1 (some x0) 9 4 (fun n5 => wpSI h1 r4 n5 x1 (fun h6 => wpGI h6 (some x0) 9 4 (fun n7 => in32 (n7 + 1) ∧ wpP h6 (some x0) 9 4 (vI (n7 + 1)) (fun h9 => wpGI h9 (some x0) 9 4 (fun n10 => K (some (vI n10)) h9))))))) ∧ (¬ (n3 ≠ 200) → K (some (vI (-5))) h1)))) ∧ (¬ (n2 ≠ 0) → K (some (vI (-3))) h1))))) : Vx (d + 1) m_X10_type 0 0 0 [some (vR (some x0)), some (vI x1)] [] h K := by
  refine rr_iload_n dX10_type_0 rfl rfl ?_
  refine rr_i2l dX10_type_1 rfl ?_
  refine rr_lconst (n := 0) dX10_type_2 rfl ⟨by decide, by decide⟩ rfl ?_
  refine rr_ldc2 (n := 255) dX10_type_3 rfl q_828 (by decide) ⟨by decide, by decide⟩ ?_
  refine rr_callS (bc' := 0) (bs' := 0) (av := [vL x1, vL 0, vL 255]) (st := []) mf_X10_in dX10_type_6 rfl q_829 q_830 rfl (by decide) (Nat.le_refl _) (Nat.le_refl _) hh (rr_kI fun n2 h1 hh => ?_)
  refine rr_if_ne (tgt := 15) dX10_type_9 rfl (by decide) (fun hc9 => ?_) (fun hc9 => ?_)
  · have hh := hh.1 hc9
    refine rr_aload_n dX10_type_15 rfl rfl ?_
    refine rr_getI cf_X10 (j := 4) (by decide) dX10_type_16 rfl q_758 hh (fun n3 hh => ?_)
    refine rr_sipush dX10_type_19 rfl ⟨by decide, by decide⟩ rfl ?_
    refine rr_icmp_ne (tgt := 28) dX10_type_22 rfl (by decide) (fun hc22 => ?_) (fun hc22 => ?_)
    · have hh := hh.1 hc22
      refine rr_aload_n dX10_type_28 rfl rfl ?_
      refine rr_getR cf_X10 (j := 3) (by decide) dX10_type_29 rfl q_757 hh (fun r4 hh => ?_)
      refine rr_aload_n dX10_type_32 rfl rfl ?_
      refine rr_getI cf_X10 (j := 4) (by decide) dX10_type_33 rfl q_758 hh (fun n5 hh => ?_)
      refine rr_iload_n dX10_type_36 rfl rfl ?_
      refine rr_iast dX10_type_37 rfl hh (fun h6 hh => ?_)
      refine rr_aload_n dX10_type_38 rfl rfl ?_
      refine rr_dup dX10_type_39 rfl rfl ?_
      refine rr_getI cf_X10 (j := 4) (by decide) dX10_type_40 rfl q_758 hh (fun n7 hh => ?_)
      refine rr_iconst dX10_type_43 rfl ⟨by decide, by decide⟩ ?_
      obtain ⟨hz8, hh⟩ := hh
      refine rr_iadd dX10_type_44 rfl hz8 ?_
      refine rr_put cf_X10 (j := 4) (by decide) dX10_type_45 rfl q_758 rfl (fty := .int) (by decide +kernel) rfl rfl hh (fun h9 hh => ?_)
      refine rr_aload_n dX10_type_48 rfl rfl ?_
      refine rr_getI cf_X10 (j := 4) (by decide) dX10_type_49 rfl q_758 hh (fun n10 hh => ?_)
      exact rr_iret dX10_type_52 rfl hh
    · have hh := hh.2 hc22
      refine rr_bipush dX10_type_25 rfl ⟨by decide, by decide⟩ rfl ?_
      exact rr_iret dX10_type_27 rfl hh
  · have hh := hh.2 hc9
    refine rr_bipush dX10_type_12 rfl ⟨by decide, by decide⟩ rfl ?_
    exact rr_iret dX10_type_14 rfl hh
theorem dX10_erase_0 : decode cX10_erase 0 = .ok (.aload_n 0, 1) := by decide +kernel
theorem dX10_erase_1 : decode cX10_erase 1 = .ok (.getfield 68, 3) := by decide +kernel
theorem dX10_erase_4 : decode cX10_erase 4 = .ok (.istore_n 1, 1) := by decide +kernel
theorem dX10_erase_5 : decode cX10_erase 5 = .ok (.aload_n 0, 1) := by decide +kernel
theorem dX10_erase_6 : decode cX10_erase 6 = .ok (.iconst 0, 1) := by decide +kernel
theorem dX10_erase_7 : decode cX10_erase 7 = .ok (.putfield 68, 3) := by decide +kernel
theorem dX10_erase_10 : decode cX10_erase 10 = .ok (.iload_n 1, 1) := by decide +kernel
theorem dX10_erase_11 : decode cX10_erase 11 = .ok (.ireturn, 1) := by decide +kernel
set_option maxRecDepth 100000 in
theorem B_X10_erase_0 {d : Nat} {h : AbH} {K : Option AbV → AbH → Prop} {x0 : Nat} (hh : wpGI h (some x0) 9 4 (fun n1 => wpP h (some x0) 9 4 (vI 0) (fun h2 => K (some (vI n1)) h2))) : Vx (d + 1) m_X10_erase 0 0 0 [some (vR (some x0))] [] h K := by
  refine Vx.pad 1 [some (vR (some x0)), none] rfl ?_
  refine rr_aload_n dX10_erase_0 rfl rfl ?_
  refine rr_getI cf_X10 (j := 4) (by decide) dX10_erase_1 rfl q_758 hh (fun n1 hh => ?_)
  refine rr_istore_n (ls' := [some (vR (some x0)), some (vI n1)]) dX10_erase_4 rfl (by decide) (fun _ z => by cases z) rfl ?_
  refine rr_aload_n dX10_erase_5 rfl rfl ?_
  refine rr_iconst dX10_erase_6 rfl ⟨by decide, by decide⟩ ?_
  refine rr_put cf_X10 (j := 4) (by decide) dX10_erase_7 rfl q_758 rfl (fty := .int) (by decide +kernel) rfl rfl hh (fun h2 hh => ?_)
  refine rr_iload_n dX10_erase_10 rfl rfl ?_
  exact rr_iret dX10_erase_11 rfl hh
theorem dX10_isSmall_0 : decode cX10_isSmall 0 = .ok (.iload_n 0, 1) := by decide +kernel
theorem dX10_isSmall_1 : decode cX10_isSmall 1 = .ok (.i2l, 1) := by decide +kernel
theorem dX10_isSmall_2 : decode cX10_isSmall 2 = .ok (.ldc2_w 72, 3) := by decide +kernel
theorem dX10_isSmall_5 : decode cX10_isSmall 5 = .ok (.ldc2_w 74, 3) := by decide +kernel
theorem dX10_isSmall_8 : decode cX10_isSmall 8 = .ok (.invokestatic 52, 3) := by decide +kernel
theorem dX10_isSmall_11 : decode cX10_isSmall 11 = .ok (.ireturn, 1) := by decide +kernel
set_option maxRecDepth 100000 in
theorem B_X10_isSmall_0 {d : Nat} {h : AbH} {K : Option AbV → AbH → Prop} {x0 : Int} (hh : Vm d m_X10_in [vL x0, vL 97, vL 122] h (kI (fun n2 h1 => ab_z01 n2 ∧ K (some (vI n2)) h1))) : Vx (d + 1) m_X10_isSmall 0 0 0 [some (vI x0)] [] h K := by
  refine rr_iload_n dX10_isSmall_0 rfl rfl ?_
  refine rr_i2l dX10_isSmall_1 rfl ?_
  refine rr_ldc2 (n := 97) dX10_isSmall_2 rfl q_859 (by decide) ⟨by decide, by decide⟩ ?_
  refine rr_ldc2 (n := 122) dX10_isSmall_5 rfl q_860 (by decide) ⟨by decide, by decide⟩ ?_
  refine rr_callS (bc' := 0) (bs' := 0) (av := [vL x0, vL 97, vL 122]) (st := []) mf_X10_in dX10_isSmall_8 rfl q_829 q_830 rfl (by decide) (Nat.le_refl _) (Nat.le_refl _) hh (rr_kI fun n2 h1 hh => ?_)
  obtain ⟨hz3, hh⟩ := hh
  exact rr_zret dX10_isSmall_11 rfl (zn_b hz3) hh
theorem dX10_isDigit_0 : decode cX10_isDigit 0 = .ok (.iload_n 0, 1) := by decide +kernel
theorem dX10_isDigit_1 : decode cX10_isDigit 1 = .ok (.i2l, 1) := by decide +kernel
theorem dX10_isDigit_2 : decode cX10_isDigit 2 = .ok (.ldc2_w 76, 3) := by decide +kernel
theorem dX10_isDigit_5 : decode cX10_isDigit 5 = .ok (.ldc2_w 78, 3) := by decide +kernel
theorem dX10_isDigit_8 : decode cX10_isDigit 8 = .ok (.invokestatic 52, 3) := by decide +kernel
theorem dX10_isDigit_11 : decode cX10_isDigit 11 = .ok (.ireturn, 1) := by decide +kernel
set_option maxRecDepth 100000 in
theorem B_X10_isDigit_0 {d : Nat} {h : AbH} {K : Option AbV → AbH → Prop} {x0 : Int} (hh : Vm d m_X10_in [vL x0, vL 48, vL 57] h (kI (fun n2 h1 => ab_z01 n2 ∧ K (some (vI n2)) h1))) : Vx (d + 1) m_X10_isDigit 0 0 0 [some (vI x0)] [] h K := by
  refine rr_iload_n dX10_isDigit_0 rfl rfl ?_
  refine rr_i2l dX10_isDigit_1 rfl ?_
  refine rr_ldc2 (n := 48) dX10_isDigit_2 rfl q_864 (by decide) ⟨by decide, by decide⟩ ?_
  refine rr_ldc2 (n := 57) dX10_isDigit_5 rfl q_865 (by decide) ⟨by decide, by decide⟩ ?_
  refine rr_callS (bc' := 0) (bs' := 0) (av := [vL x0, vL 48, vL 57]) (st := []) mf_X10_in dX10_isDigit_8 rfl q_829 q_830 rfl (by decide) (Nat.le_refl _) (Nat.le_refl _) hh (rr_kI fun n2 h1 hh => ?_)
  obtain ⟨hz3, hh⟩ := hh
  exact rr_zret dX10_isDigit_11 rfl (zn_b hz3) hh
theorem dX10_nextToken_0 : decode cX10_nextToken 0 = .ok (.aload_n 0, 1) := by decide +kernel
theorem dX10_nextToken_1 : decode cX10_nextToken 1 = .ok (.aload_n 0, 1) := by decide +kernel
theorem dX10_nextToken_2 : decode cX10_nextToken 2 = .ok (.getfield 80, 3) := by decide +kernel
theorem dX10_nextToken_5 : decode cX10_nextToken 5 = .ok (.putfield 83, 3) := by decide +kernel
theorem dX10_nextToken_8 : decode cX10_nextToken 8 = .ok (.aload_n 0, 1) := by decide +kernel
theorem dX10_nextToken_9 : decode cX10_nextToken 9 = .ok (.getfield 83, 3) := by decide +kernel
theorem dX10_nextToken_12 : decode cX10_nextToken 12 = .ok (.aload_n 0, 1) := by decide +kernel
theorem dX10_nextToken_13 : decode cX10_nextToken 13 = .ok (.getfield 68, 3) := by decide +kernel
theorem dX10_nextToken_16 : decode cX10_nextToken 16 = .ok (.if_icmp .ge 30, 3) := by decide +kernel
theorem dX10_nextToken_19 : decode cX10_nextToken 19 = .ok (.aload_n 0, 1) := by decide +kernel
theorem dX10_nextToken_20 : decode cX10_nextToken 20 = .ok (.getfield 17, 3) := by decide +kernel
theorem dX10_nextToken_23 : decode cX10_nextToken 23 = .ok (.aload_n 0, 1) := by decide +kernel
theorem dX10_nextToken_24 : decode cX10_nextToken 24 = .ok (.getfield 83, 3) := by decide +kernel
theorem dX10_nextToken_27 : decode cX10_nextToken 27 = .ok (.iaload, 1) := by decide +kernel
theorem dX10_nextToken_28 : decode cX10_nextToken 28 = .ok (.bipush 32, 2) := by decide +kernel
theorem dX10_nextToken_30 : decode cX10_nextToken 30 = .ok (.if_icmp .ne 16, 3) := by decide +kernel
theorem dX10_nextToken_33 : decode cX10_nextToken 33 = .ok (.aload_n 0, 1) := by decide +kernel
theorem dX10_nextToken_34 : decode cX10_nextToken 34 = .ok (.dup, 1) := by decide +kernel
theorem dX10_nextToken_35 : decode cX10_nextToken 35 = .ok (.getfield 83, 3) := by decide +kernel
theorem dX10_nextToken_38 : decode cX10_nextToken 38 = .ok (.iconst 1, 1) := by decide +kernel
theorem dX10_nextToken_39 : decode cX10_nextToken 39 = .ok (.iadd, 1) := by decide +kernel
theorem dX10_nextToken_40 : decode cX10_nextToken 40 = .ok (.putfield 83, 3) := by decide +kernel
theorem dX10_nextToken_43 : decode cX10_nextToken 43 = .ok (.goto (-35), 3) := by decide +kernel
theorem dX10_nextToken_46 : decode cX10_nextToken 46 = .ok (.aload_n 0, 1) := by decide +kernel
theorem dX10_nextToken_47 : decode cX10_nextToken 47 = .ok (.aload_n 0, 1) := by decide +kernel
theorem dX10_nextToken_48 : decode cX10_nextToken 48 = .ok (.getfield 83, 3) := by decide +kernel
theorem dX10_nextToken_51 : decode cX10_nextToken 51 = .ok (.aload_n 0, 1) := by decide +kernel
theorem dX10_nextToken_52 : decode cX10_nextToken 52 = .ok (.getfield 68, 3) := by decide +kernel
theorem dX10_nextToken_55 : decode cX10_nextToken 55 = .ok (.if_icmp .ge 12, 3) := by decide +kernel
theorem dX10_nextToken_58 : decode cX10_nextToken 58 = .ok (.aload_n 0, 1) := by decide +kernel
theorem dX10_nextToken_59 : decode cX10_nextToken 59 = .ok (.getfield 83, 3) := by decide +kernel
theorem dX10_nextToken_62 : decode cX10_nextToken 62 = .ok (.iconst 1, 1) := by decide +kernel
theorem dX10_nextToken_63 : decode cX10_nextToken 63 = .ok (.iadd, 1) := by decide +kernel
theorem dX10_nextToken_64 : decode cX10_nextToken 64 = .ok (.goto 7, 3) := by decide +kernel
theorem dX10_nextToken_67 : decode cX10_nextToken 67 = .ok (.aload_n 0, 1) := by decide +kernel
theorem dX10_nextToken_68 : decode cX10_nextToken 68 = .ok (.getfield 83, 3) := by decide +kernel
theorem dX10_nextToken_71 : decode cX10_nextToken 71 = .ok (.putfield 80, 3) := by decide +kernel
theorem dX10_nextToken_74 : decode cX10_nextToken 74 = .ok (.aload_n 0, 1) := by decide +kernel
theorem dX10_nextToken_75 : decode cX10_nextToken 75 = .ok (.getfield 83, 3) := by decide +kernel
theorem dX10_nextToken_78 : decode cX10_nextToken 78 = .ok (.aload_n 0, 1) := by decide +kernel
theorem dX10_nextToken_79 : decode cX10_nextToken 79 = .ok (.getfield 68, 3) := by decide +kernel
theorem dX10_nextToken_82 : decode cX10_nextToken 82 = .ok (.if_icmp .ge 57, 3) := by decide +kernel
theorem dX10_nextToken_85 : decode cX10_nextToken 85 = .ok (.aload_n 0, 1) := by decide +kernel
theorem dX10_nextToken_86 : decode cX10_nextToken 86 = .ok (.getfield 17, 3) := by decide +kernel
theorem dX10_nextToken_89 : decode cX10_nextToken 89 = .ok (.aload_n 0, 1) := by decide +kernel
theorem dX10_nextToken_90 : decode cX10_nextToken 90 = .ok (.getfield 83, 3) := by decide +kernel
theorem dX10_nextToken_93 : decode cX10_nextToken 93 = .ok (.iaload, 1) := by decide +kernel
theorem dX10_nextToken_94 : decode cX10_nextToken 94 = .ok (.invokestatic 86, 3) := by decide +kernel
theorem dX10_nextToken_97 : decode cX10_nextToken 97 = .ok (.ifCond .eq 42, 3) := by decide +kernel
theorem dX10_nextToken_100 : decode cX10_nextToken 100 = .ok (.aload_n 0, 1) := by decide +kernel
theorem dX10_nextToken_101 : decode cX10_nextToken 101 = .ok (.getfield 80, 3) := by decide +kernel
theorem dX10_nextToken_104 : decode cX10_nextToken 104 = .ok (.aload_n 0, 1) := by decide +kernel
theorem dX10_nextToken_105 : decode cX10_nextToken 105 = .ok (.getfield 68, 3) := by decide +kernel
theorem dX10_nextToken_108 : decode cX10_nextToken 108 = .ok (.if_icmp .ge 96, 3) := by decide +kernel
theorem dX10_nextToken_111 : decode cX10_nextToken 111 = .ok (.aload_n 0, 1) := by decide +kernel
theorem dX10_nextToken_112 : decode cX10_nextToken 112 = .ok (.getfield 17, 3) := by decide +kernel
theorem dX10_nextToken_115 : decode cX10_nextToken 115 = .ok (.aload_n 0, 1) := by decide +kernel
theorem dX10_nextToken_116 : decode cX10_nextToken 116 = .ok (.getfield 80, 3) := by decide +kernel
theorem dX10_nextToken_119 : decode cX10_nextToken 119 = .ok (.iaload, 1) := by decide +kernel
theorem dX10_nextToken_120 : decode cX10_nextToken 120 = .ok (.invokestatic 86, 3) := by decide +kernel
theorem dX10_nextToken_123 : decode cX10_nextToken 123 = .ok (.ifCond .eq 81, 3) := by decide +kernel
theorem dX10_nextToken_126 : decode cX10_nextToken 126 = .ok (.aload_n 0, 1) := by decide +kernel
theorem dX10_nextToken_127 : decode cX10_nextToken 127 = .ok (.dup, 1) := by decide +kernel
theorem dX10_nextToken_128 : decode cX10_nextToken 128 = .ok (.getfield 80, 3) := by decide +kernel
theorem dX10_nextToken_131 : decode cX10_nextToken 131 = .ok (.iconst 1, 1) := by decide +kernel
theorem dX10_nextToken_132 : decode cX10_nextToken 132 = .ok (.iadd, 1) := by decide +kernel
theorem dX10_nextToken_133 : decode cX10_nextToken 133 = .ok (.putfield 80, 3) := by decide +kernel
theorem dX10_nextToken_136 : decode cX10_nextToken 136 = .ok (.goto (-36), 3) := by decide +kernel
theorem dX10_nextToken_139 : decode cX10_nextToken 139 = .ok (.aload_n 0, 1) := by decide +kernel
theorem dX10_nextToken_140 : decode cX10_nextToken 140 = .ok (.getfield 83, 3) := by decide +kernel
theorem dX10_nextToken_143 : decode cX10_nextToken 143 = .ok (.aload_n 0, 1) := by decide +kernel
theorem dX10_nextToken_144 : decode cX10_nextToken 144 = .ok (.getfield 68, 3) := by decide +kernel
theorem dX10_nextToken_147 : decode cX10_nextToken 147 = .ok (.if_icmp .ge 57, 3) := by decide +kernel
theorem dX10_nextToken_150 : decode cX10_nextToken 150 = .ok (.aload_n 0, 1) := by decide +kernel
theorem dX10_nextToken_151 : decode cX10_nextToken 151 = .ok (.getfield 17, 3) := by decide +kernel
theorem dX10_nextToken_154 : decode cX10_nextToken 154 = .ok (.aload_n 0, 1) := by decide +kernel
theorem dX10_nextToken_155 : decode cX10_nextToken 155 = .ok (.getfield 83, 3) := by decide +kernel
theorem dX10_nextToken_158 : decode cX10_nextToken 158 = .ok (.iaload, 1) := by decide +kernel
theorem dX10_nextToken_159 : decode cX10_nextToken 159 = .ok (.invokestatic 89, 3) := by decide +kernel
theorem dX10_nextToken_162 : decode cX10_nextToken 162 = .ok (.ifCond .eq 42, 3) := by decide +kernel
theorem dX10_nextToken_165 : decode cX10_nextToken 165 = .ok (.aload_n 0, 1) := by decide +kernel
theorem dX10_nextToken_166 : decode cX10_nextToken 166 = .ok (.getfield 80, 3) := by decide +kernel
theorem dX10_nextToken_169 : decode cX10_nextToken 169 = .ok (.aload_n 0, 1) := by decide +kernel
theorem dX10_nextToken_170 : decode cX10_nextToken 170 = .ok (.getfield 68, 3) := by decide +kernel
theorem dX10_nextToken_173 : decode cX10_nextToken 173 = .ok (.if_icmp .ge 31, 3) := by decide +kernel
theorem dX10_nextToken_176 : decode cX10_nextToken 176 = .ok (.aload_n 0, 1) := by decide +kernel
theorem dX10_nextToken_177 : decode cX10_nextToken 177 = .ok (.getfield 17, 3) := by decide +kernel
theorem dX10_nextToken_180 : decode cX10_nextToken 180 = .ok (.aload_n 0, 1) := by decide +kernel
theorem dX10_nextToken_181 : decode cX10_nextToken 181 = .ok (.getfield 80, 3) := by decide +kernel
theorem dX10_nextToken_184 : decode cX10_nextToken 184 = .ok (.iaload, 1) := by decide +kernel
theorem dX10_nextToken_185 : decode cX10_nextToken 185 = .ok (.invokestatic 89, 3) := by decide +kernel
theorem dX10_nextToken_188 : decode cX10_nextToken 188 = .ok (.ifCond .eq 16, 3) := by decide +kernel
theorem dX10_nextToken_191 : decode cX10_nextToken 191 = .ok (.aload_n 0, 1) := by decide +kernel
theorem dX10_nextToken_192 : decode cX10_nextToken 192 = .ok (.dup, 1) := by decide +kernel
theorem dX10_nextToken_193 : decode cX10_nextToken 193 = .ok (.getfield 80, 3) := by decide +kernel
theorem dX10_nextToken_196 : decode cX10_nextToken 196 = .ok (.iconst 1, 1) := by decide +kernel
theorem dX10_nextToken_197 : decode cX10_nextToken 197 = .ok (.iadd, 1) := by decide +kernel
theorem dX10_nextToken_198 : decode cX10_nextToken 198 = .ok (.putfield 80, 3) := by decide +kernel
theorem dX10_nextToken_201 : decode cX10_nextToken 201 = .ok (.goto (-36), 3) := by decide +kernel
theorem dX10_nextToken_204 : decode cX10_nextToken 204 = .ok (.return_, 1) := by decide +kernel
set_option maxRecDepth 100000 in
theorem B_X10_nextToken_0 {d : Nat} {h : AbH} {K : Option AbV → AbH → Prop} {x0 : Nat} (hh : wpGI h (some x0) 9 6 (fun n1 => wpP h (some x0) 9 5 (vI n1) (fun h2 => Vx (d + 1) m_X10_nextToken 0 0 8 [some (vR (some x0))] [] h2 K))) : Vx (d + 1) m_X10_nextToken 0 0 0 [some (vR (some x0))] [] h K := by
  refine rr_aload_n dX10_nextToken_0 rfl rfl ?_
  refine rr_aload_n dX10_nextToken_1 rfl rfl ?_
  refine rr_getI cf_X10 (j := 6) (by decide) dX10_nextToken_2 rfl q_760 hh (fun n1 hh => ?_)
  refine rr_put cf_X10 (j := 5) (by decide) dX10_nextToken_5 rfl q_759 rfl (fty := .int) (by decide +kernel) rfl rfl hh (fun h2 hh => ?_)
  exact hh
set_option maxRecDepth 100000 in
theorem B_X10_nextToken_8 {d : Nat} {h : AbH} {K : Option AbV → AbH → Prop} {x0 : Nat} {bc bs : Nat} (hh : wpGI h (some x0) 9 5 (fun n1 => wpGI h (some x0) 9 4 (fun n2 => ((n2 ≤ n1 → Vx (d + 1) m_X10_nextToken bc bs 46 [some (vR (some x0))] [] h K) ∧ (¬ (n2 ≤ n1) → wpGR h (some x0) 9 3 (fun r3 => wpGI h (some x0) 9 5 (fun n4 => wpLI h r3 n4 (fun n5 => ((n5 ≠ 32 → Vx (d + 1) m_X10_nextToken bc bs 46 [some (vR (some x0))] [] h K) ∧ (¬ (n5 ≠ 32) → wpGI h (some x0) 9 5 (fun n6 => in32 (n6 + 1) ∧ wpP h (some x0) 9 5 (vI (n6 + 1)) (fun h8 => Vx (d + 1) m_X10_nextToken bc bs 8 [some (vR (some x0))] [] h8 K)))))))))))) : Vx (d + 1) m_X10_nextToken bc bs 8 [some (vR (some x0))] [] h K := by
  refine rr_aload_n dX10_nextToken_8 rfl rfl ?_
  refine rr_getI cf_X10 (j := 5) (by decide) dX10_nextToken_9 rfl q_759 hh (fun n1 hh => ?_)
  refine rr_aload_n dX10_nextToken_12 rfl rfl ?_
  refine rr_getI cf_X10 (j := 4) (by decide) dX10_nextToken_13 rfl q_758 hh (fun n2 hh => ?_)
  refine rr_icmp_ge (tgt := 46) dX10_nextToken_16 rfl (by decide) (fun hc16 => ?_) (fun hc16 => ?_)
  · have hh := hh.1 hc16
    exact hh
  · have hh := hh.2 hc16
    refine rr_aload_n dX10_nextToken_19 rfl rfl ?_
    refine rr_getR cf_X10 (j := 3) (by decide) dX10_nextToken_20 rfl q_757 hh (fun r3 hh => ?_)
    refine rr_aload_n dX10_nextToken_23 rfl rfl ?_
    refine rr_getI cf_X10 (j := 5) (by decide) dX10_nextToken_24 rfl q_759 hh (fun n4 hh => ?_)
    refine rr_iald dX10_nextToken_27 rfl hh (fun n5 hh => ?_)
    refine rr_bipush dX10_nextToken_28 rfl ⟨by decide, by decide⟩ rfl ?_
    refine rr_icmp_ne (tgt := 46) dX10_nextToken_30 rfl (by decide) (fun hc30 => ?_) (fun hc30 => ?_)
    · have hh := hh.1 hc30
      exact hh
    · have hh := hh.2 hc30
      refine rr_aload_n dX10_nextToken_33 rfl rfl ?_
      refine rr_dup dX10_nextToken_34 rfl rfl ?_
      refine rr_getI cf_X10 (j := 5) (by decide) dX10_nextToken_35 rfl q_759 hh (fun n6 hh => ?_)
      refine rr_iconst dX10_nextToken_38 rfl ⟨by decide, by decide⟩ ?_
      obtain ⟨hz7, hh⟩ := hh
      refine rr_iadd dX10_nextToken_39 rfl hz7 ?_
      refine rr_put cf_X10 (j := 5) (by decide) dX10_nextToken_40 rfl q_759 rfl (fty := .int) (by decide +kernel) rfl rfl hh (fun h8 hh => ?_)
      refine rr_goto (pc' := 8) dX10_nextToken_43 (by decide) ?_
      exact hh
set_option maxRecDepth 100000 in
theorem B_X10_nextToken_46 {d : Nat} {h : AbH} {K : Option AbV → AbH → Prop} {x0 : Nat} {bc bs : Nat} (hh : wpGI h (some x0) 9 5 (fun n1 => wpGI h (some x0) 9 4 (fun n2 => ((n2 ≤ n1 → wpGI h (some x0) 9 5 (fun n3 => wpP h (some x0) 9 6 (vI n3) (fun h4 => wpGI h4 (some x0) 9 5 (fun n5 => wpGI h4 (some x0) 9 4 (fun n6 => ((n6 ≤ n5 → wpGI h4 (some x0) 9 5 (fun n7 => wpGI h4 (some x0) 9 4 (fun n8 => ((n8 ≤ n7 → K none h4) ∧ (¬ (n8 ≤ n7) → wpGR h4 (some x0) 9 3 (fun r9 => wpGI h4 (some x0) 9 5 (fun n10 => wpLI h4 r9 n10 (fun n11 => Vm d m_X10_isDigit [vI n11] h4 (kI (fun n13 h12 => ((n13 = 0 → K none h12) ∧ (¬ (n13 = 0) → Vx (d + 1) m_X10_nextToken bc bs 165 [some (vR (some x0))] [] h12 K)))))))))))) ∧ (¬ (n6 ≤ n5) → wpGR h4 (some x0) 9 3 (fun r14 => wpGI h4 (some x0) 9 5 (fun n15 => wpLI h4 r14 n15 (fun n16 => Vm d m_X10_isSmall [vI n16] h4 (kI (fun n18 h17 => ((n18 = 0 → wpGI h17 (some x0) 9 5 (fun n19 => wpGI h17 (some x0) 9 4 (fun n20 => ((n20 ≤ n19 → K none h17) ∧ (¬ (n20 ≤ n19) → wpGR h17 (some x0) 9 3 (fun r21 => wpGI h17 (some x0) 9 5 (fun n22 => wpLI h17 r21 n22 (fun n23 => Vm d m_X10_isDigit [vI n23] h17 (kI (fun n25 h24 => ((n25 = 0 → K none h24) ∧ (¬ (n25 = 0) → Vx (d + 1) m_X10_nextToken bc bs 165 [some (vR (some x0))] [] h24 K)))))))))))) ∧ (¬ (n18 = 0) → Vx (d + 1) m_X10_nextToken bc bs 100 [some (vR (some x0))] [] h17 K)))))))))))))) ∧ (¬ (n2 ≤ n1) → wpGI h (some x0) 9 5 (fun n26 => in32 (n26 + 1) ∧ wpP h (some x0) 9 6 (vI (n26 + 1)) (fun h28 => wpGI h28 (some x0) 9 5 (fun n29 => wpGI h28 (some x0) 9 4 (fun n30 => ((n30 ≤ n29 → wpGI h28 (some x0) 9 5 (fun n31 => wpGI h28 (some x0) 9 4 (fun n32 => ((n32 ≤ n31 → K none h28) ∧ (¬ (n32 ≤ n31) → wpGR h28 (some x0) 9 3 (fun r33 => wpGI h28 (some x0) 9 5 (fun n34 => wpLI h28 r33 n34 (fun n35 => Vm d m_X10_isDigit [vI n35] h28 (kI (fun n37 h36 => ((n37 = 0 → K none h36) ∧ (¬ (n37 = 0) → Vx (d + 1) m_X10_nextToken bc bs 165 [some (vR (some x0))] [] h36 K)))))))))))) ∧ (¬ (n30 ≤ n29) → wpGR h28 (some x0) 9 3 (fun r38 => wpGI h28 (some x0) 9 5 (fun n39 => wpLI h28 r38 n39 (fun n40 => Vm d m_X10_isSmall [vI n40] h28 (kI (fun n42 h41 => ((n42 = 0 → wpGI h41 (some x0) 9 5 (fun n43 => wpGI h41 (some x0) 9 4 (fun n44 => ((n44 ≤ n43 → K none h41) ∧ (¬ (n44 ≤ n43) → wpGR h41 (some x0) 9 3 (fun r45 => wpGI h41 (some x0) 9 5 (fun n46 => wpLI h41 r45 n46 (fun n47 => Vm d m_X10_isDigit [vI n47] h41 (kI (fun n49 h48 => ((n49 = 0 → K none h48) ∧ (¬ (n49 = 0) → Vx (d + 1) m_X10_nextToken bc bs 165 [some (vR (some x0))] [] h48 K)))))))))))) ∧ (¬ (n42 = 0) → Vx (d + 1) m_X10_nextToken bc bs 100 [some (vR (some x0))] [] h41 K)))))))))))))))))) : Vx (d + 1) m_X10_nextToken bc bs 46 [some (vR (some x0))] [] h K := by
  refine rr_aload_n dX10_nextToken_46 rfl rfl ?_
  refine rr_aload_n dX10_nextToken_47 rfl rfl ?_
  refine rr_getI cf_X10 (j := 5) (by decide) dX10_nextToken_48 rfl q_759 hh (fun n1 hh => ?_)
  refine rr_aload_n dX10_nextToken_51 rfl rfl ?_
  refine rr_getI cf_X10 (j := 4) (by decide) dX10_nextToken_52 rfl q_758 hh (fun n2 hh => ?_)
  refine rr_icmp_ge (tgt := 67) dX10_nextToken_55 rfl (by decide) (fun hc55 => ?_) (fun hc55 => ?_)
  · have hh := hh.1 hc55
    refine rr_aload_n dX10_nextToken_67 rfl rfl ?_
    refine rr_getI cf_X10 (j := 5) (by decide) dX10_nextToken_68 rfl q_759 hh (fun n3 hh => ?_)
    refine rr_put cf_X10 (j := 6) (by decide) dX10_nextToken_71 rfl q_760 rfl (fty := .int) (by decide +kernel) rfl rfl hh (fun h4 hh => ?_)
    refine rr_aload_n dX10_nextToken_74 rfl rfl ?_
    refine rr_getI cf_X10 (j := 5) (by decide) dX10_nextToken_75 rfl q_759 hh (fun n5 hh => ?_)
    refine rr_aload_n dX10_nextToken_78 rfl rfl ?_
    refine rr_getI cf_X10 (j := 4) (by decide) dX10_nextToken_79 rfl q_758 hh (fun n6 hh => ?_)
    refine rr_icmp_ge (tgt := 139) dX10_nextToken_82 rfl (by decide) (fun hc82 => ?_) (fun hc82 => ?_)
    · have hh := hh.1 hc82
      refine rr_aload_n dX10_nextToken_139 rfl rfl ?_
      refine rr_getI cf_X10 (j := 5) (by decide) dX10_nextToken_140 rfl q_759 hh (fun n7 hh => ?_)
      refine rr_aload_n dX10_nextToken_143 rfl rfl ?_
      refine rr_getI cf_X10 (j := 4) (by decide) dX10_nextToken_144 rfl q_758 hh (fun n8 hh => ?_)
      refine rr_icmp_ge (tgt := 204) dX10_nextToken_147 rfl (by decide) (fun hc147 => ?_) (fun hc147 => ?_)
      · have hh := hh.1 hc147
        exact rr_vret dX10_nextToken_204 rfl hh
      · have hh := hh.2 hc147
        refine rr_aload_n dX10_nextToken_150 rfl rfl ?_
        refine rr_getR cf_X10 (j := 3) (by decide) dX10_nextToken_151 rfl q_757 hh (fun r9 hh => ?_)
        refine rr_aload_n dX10_nextToken_154 rfl rfl ?_
        refine rr_getI cf_X10 (j := 5) (by decide) dX10_nextToken_155 rfl q_759 hh (fun n10 hh => ?_)
        refine rr_iald dX10_nextToken_158 rfl hh (fun n11 hh => ?_)
        refine rr_callS (bc' := bc) (bs' := bs) (av := [vI n11]) (st := []) mf_X10_isDigit dX10_nextToken_159 rfl q_861 q_862 rfl (by decide) (Nat.le_refl _) (Nat.le_refl _) hh (rr_kI fun n13 h12 hh => ?_)
        refine rr_if_eq (tgt := 204) dX10_nextToken_162 rfl (by decide) (fun hc162 => ?_) (fun hc162 => ?_)
        · have hh := hh.1 hc162
          exact rr_vret dX10_nextToken_204 rfl hh
        · have hh := hh.2 hc162
          exact hh
    · have hh := hh.2 hc82
      refine rr_aload_n dX10_nextToken_85 rfl rfl ?_
      refine rr_getR cf_X10 (j := 3) (by decide) dX10_nextToken_86 rfl q_757 hh (fun r14 hh => ?_)
      refine rr_aload_n dX10_nextToken_89 rfl rfl ?_
      refine rr_getI cf_X10 (j := 5) (by decide) dX10_nextToken_90 rfl q_759 hh (fun n15 hh => ?_)
      refine rr_iald dX10_nextToken_93 rfl hh (fun n16 hh => ?_)
      refine rr_callS (bc' := bc) (bs' := bs) (av := [vI n16]) (st := []) mf_X10_isSmall dX10_nextToken_94 rfl q_856 q_857 rfl (by decide) (Nat.le_refl _) (Nat.le_refl _) hh (rr_kI fun n18 h17 hh => ?_)
      refine rr_if_eq (tgt := 139) dX10_nextToken_97 rfl (by decide) (fun hc97 => ?_) (fun hc97 => ?_)
      · have hh := hh.1 hc97
        refine rr_aload_n dX10_nextToken_139 rfl rfl ?_
        refine rr_getI cf_X10 (j := 5) (by decide) dX10_nextToken_140 rfl q_759 hh (fun n19 hh => ?_)
        refine rr_aload_n dX10_nextToken_143 rfl rfl ?_
        refine rr_getI cf_X10 (j := 4) (by decide) dX10_nextToken_144 rfl q_758 hh (fun n20 hh => ?_)
        refine rr_icmp_ge (tgt := 204) dX10_nextToken_147 rfl (by decide) (fun hc147 => ?_) (fun hc147 => ?_)
        · have hh := hh.1 hc147
          exact rr_vret dX10_nextToken_204 rfl hh
        · have hh := hh.2 hc147
          refine rr_aload_n dX10_nextToken_150 rfl rfl ?_
          refine rr_getR cf_X10 (j := 3) (by decide) dX10_nextToken_151 rfl q_757 hh (fun r21 hh => ?_)
          refine rr_aload_n dX10_nextToken_154 rfl rfl ?_
          refine rr_getI cf_X10 (j := 5) (by decide) dX10_nextToken_155 rfl q_759 hh (fun n22 hh => ?_)
          refine rr_iald dX10_nextToken_158 rfl hh (fun n23 hh => ?_)
          refine rr_callS (bc' := bc) (bs' := bs) (av := [vI n23]) (st := []) mf_X10_isDigit dX10_nextToken_159 rfl q_861 q_862 rfl (by decide) (Nat.le_refl _) (Nat.le_refl _) hh (rr_kI fun n25 h24 hh => ?_)
          refine rr_if_eq (tgt := 204) dX10_nextToken_162 rfl (by decide) (fun hc162 => ?_) (fun hc162 => ?_)
          · have hh := hh.1 hc162
            exact rr_vret dX10_nextToken_204 rfl hh
          · have hh := hh.2 hc162
            exact hh
      · have hh := hh.2 hc97
        exact hh
  · have hh := hh.2 hc55
    refine rr_aload_n dX10_nextToken_58 rfl rfl ?_
    refine rr_getI cf_X10 (j := 5) (by decide) dX10_nextToken_59 rfl q_759 hh (fun n26 hh => ?_)
    refine rr_iconst dX10_nextToken_62 rfl ⟨by decide, by decide⟩ ?_
    obtain ⟨hz27, hh⟩ := hh
    refine rr_iadd dX10_nextToken_63 rfl hz27 ?_
    refine rr_goto (pc' := 71) dX10_nextToken_64 (by decide) ?_
    refine rr_put cf_X10 (j := 6) (by decide) dX10_nextToken_71 rfl q_760 rfl (fty := .int) (by decide +kernel) rfl rfl hh (fun h28 hh => ?_)
    refine rr_aload_n dX10_nextToken_74 rfl rfl ?_
    refine rr_getI cf_X10 (j := 5) (by decide) dX10_nextToken_75 rfl q_759 hh (fun n29 hh => ?_)
    refine rr_aload_n dX10_nextToken_78 rfl rfl ?_
    refine rr_getI cf_X10 (j := 4) (by decide) dX10_nextToken_79 rfl q_758 hh (fun n30 hh => ?_)
    refine rr_icmp_ge (tgt := 139) dX10_nextToken_82 rfl (by decide) (fun hc82 => ?_) (fun hc82 => ?_)
    · have hh := hh.1 hc82
      refine rr_aload_n dX10_nextToken_139 rfl rfl ?_
      refine rr_getI cf_X10 (j := 5) (by decide) dX10_nextToken_140 rfl q_759 hh (fun n31 hh => ?_)
      refine rr_aload_n dX10_nextToken_143 rfl rfl ?_
      refine rr_getI cf_X10 (j := 4) (by decide) dX10_nextToken_144 rfl q_758 hh (fun n32 hh => ?_)
      refine rr_icmp_ge (tgt := 204) dX10_nextToken_147 rfl (by decide) (fun hc147 => ?_) (fun hc147 => ?_)
      · have hh := hh.1 hc147
        exact rr_vret dX10_nextToken_204 rfl hh
      · have hh := hh.2 hc147
        refine rr_aload_n dX10_nextToken_150 rfl rfl ?_
        refine rr_getR cf_X10 (j := 3) (by decide) dX10_nextToken_151 rfl q_757 hh (fun r33 hh => ?_)
        refine rr_aload_n dX10_nextToken_154 rfl rfl ?_
        refine rr_getI cf_X10 (j := 5) (by decide) dX10_nextToken_155 rfl q_759 hh (fun n34 hh => ?_)
        refine rr_iald dX10_nextToken_158 rfl hh (fun n35 hh => ?_)
        refine rr_callS (bc' := bc) (bs' := bs) (av := [vI n35]) (st := []) mf_X10_isDigit dX10_nextToken_159 rfl q_861 q_862 rfl (by decide) (Nat.le_refl _) (Nat.le_refl _) hh (rr_kI fun n37 h36 hh => ?_)
        refine rr_if_eq (tgt := 204) dX10_nextToken_162 rfl (by decide) (fun hc162 => ?_) (fun hc162 => ?_)
        · have hh := hh.1 hc162
          exact rr_vret dX10_nextToken_204 rfl hh
        · have hh := hh.2 hc162
          exact hh
    · have hh := hh.2 hc82
      refine rr_aload_n dX10_nextToken_85 rfl rfl ?_
      refine rr_getR cf_X10 (j := 3) (by decide) dX10_nextToken_86 rfl q_757 hh (fun r38 hh => ?_)
      refine rr_aload_n dX10_nextToken_89 rfl rfl ?_
      refine rr_getI cf_X10 (j := 5) (by decide) dX10_nextToken_90 rfl q_759 hh (fun n39 hh => ?_)
      refine rr_iald dX10_nextToken_93 rfl hh (fun n40 hh => ?_)
      refine rr_callS (bc' := bc) (bs' := bs) (av := [vI n40]) (st := []) mf_X10_isSmall dX10_nextToken_94 rfl q_856 q_857 rfl (by decide) (Nat.le_refl _) (Nat.le_refl _) hh (rr_kI fun n42 h41 hh => ?_)
      refine rr_if_eq (tgt := 139) dX10_nextToken_97 rfl (by decide) (fun hc97 => ?_) (fun hc97 => ?_)
      · have hh := hh.1 hc97
        refine rr_aload_n dX10_nextToken_139 rfl rfl ?_
        refine rr_getI cf_X10 (j := 5) (by decide) dX10_nextToken_140 rfl q_759 hh (fun n43 hh => ?_)
        refine rr_aload_n dX10_nextToken_143 rfl rfl ?_
        refine rr_getI cf_X10 (j := 4) (by decide) dX10_nextToken_144 rfl q_758 hh (fun n44 hh => ?_)
        refine rr_icmp_ge (tgt := 204) dX10_nextToken_147 rfl (by decide) (fun hc147 => ?_) (fun hc147 => ?_)
        · have hh := hh.1 hc147
          exact rr_vret dX10_nextToken_204 rfl hh
        · have hh := hh.2 hc147
          refine rr_aload_n dX10_nextToken_150 rfl rfl ?_
          refine rr_getR cf_X10 (j := 3) (by decide) dX10_nextToken_151 rfl q_757 hh (fun r45 hh => ?_)
          refine rr_aload_n dX10_nextToken_154 rfl rfl ?_
          refine rr_getI cf_X10 (j := 5) (by decide) dX10_nextToken_155 rfl q_759 hh (fun n46 hh => ?_)
          refine rr_iald dX10_nextToken_158 rfl hh (fun n47 hh => ?_)
          refine rr_callS (bc' := bc) (bs' := bs) (av := [vI n47]) (st := []) mf_X10_isDigit dX10_nextToken_159 rfl q_861 q_862 rfl (by decide) (Nat.le_refl _) (Nat.le_refl _) hh (rr_kI fun n49 h48 hh => ?_)
          refine rr_if_eq (tgt := 204) dX10_nextToken_162 rfl (by decide) (fun hc162 => ?_) (fun hc162 => ?_)
          · have hh := hh.1 hc162
            exact rr_vret dX10_nextToken_204 rfl hh
          · have hh := hh.2 hc162
            exact hh
      · have hh := hh.2 hc97
        exact hh
set_option maxRecDepth 100000 in
theorem B_X10_nextToken_100 {d : Nat} {h : AbH} {K : Option AbV → AbH → Prop} {x0 : Nat} {bc bs : Nat} (hh : wpGI h (some x0) 9 6 (fun n1 => wpGI h (some x0) 9 4 (fun n2 => ((n2 ≤ n1 → K none h) ∧ (¬ (n2 ≤ n1) → wpGR h (some x0) 9 3 (fun r3 => wpGI h (some x0) 9 6 (fun n4 => wpLI h r3 n4 (fun n5 => Vm d m_X10_isSmall [vI n5] h (kI (fun n7 h6 => ((n7 = 0 → K none h6) ∧ (¬ (n7 = 0) → wpGI h6 (some x0) 9 6 (fun n8 => in32 (n8 + 1) ∧ wpP h6 (some x0) 9 6 (vI (n8 + 1)) (fun h10 => Vx (d + 1) m_X10_nextToken bc bs 100 [some (vR (some x0))] [] h10 K)))))))))))))) : Vx (d + 1) m_X10_nextToken bc bs 100 [some (vR (some x0))] [] h K := by
  refine rr_aload_n dX10_nextToken_100 rfl rfl ?_
  refine rr_getI cf_X10 (j := 6) (by decide) dX10_nextToken_101 rfl q_760 hh (fun n1 hh => ?_)
  refine rr_aload_n dX10_nextToken_104 rfl rfl ?_
  refine rr_getI cf_X10 (j := 4) (by decide) dX10_nextToken_105 rfl q_758 hh (fun n2 hh => ?_)
  refine rr_icmp_ge (tgt := 204) dX10_nextToken_108 rfl (by decide) (fun hc108 => ?_) (fun hc108 => ?_)
  · have hh := hh.1 hc108
    exact rr_vret dX10_nextToken_204 rfl hh
  · have hh := hh.2 hc108
    refine rr_aload_n dX10_nextToken_111 rfl rfl ?_
    refine rr_getR cf_X10 (j := 3) (by decide) dX10_nextToken_112 rfl q_757 hh (fun r3 hh => ?_)
    refine rr_aload_n dX10_nextToken_115 rfl rfl ?_
    refine rr_getI cf_X10 (j := 6) (by decide) dX10_nextToken_116 rfl q_760 hh (fun n4 hh => ?_)
    refine rr_iald dX10_nextToken_119 rfl hh (fun n5 hh => ?_)
    refine rr_callS (bc' := bc) (bs' := bs) (av := [vI n5]) (st := []) mf_X10_isSmall dX10_nextToken_120 rfl q_856 q_857 rfl (by decide) (Nat.le_refl _) (Nat.le_refl _) hh (rr_kI fun n7 h6 hh => ?_)
    refine rr_if_eq (tgt := 204) dX10_nextToken_123 rfl (by decide) (fun hc123 => ?_) (fun hc123 => ?_)
    · have hh := hh.1 hc123
      exact rr_vret dX10_nextToken_204 rfl hh
    · have hh := hh.2 hc123
      refine rr_aload_n dX10_nextToken_126 rfl rfl ?_
      refine rr_dup dX10_nextToken_127 rfl rfl ?_
      refine rr_getI cf_X10 (j := 6) (by decide) dX10_nextToken_128 rfl q_760 hh (fun n8 hh => ?_)
      refine rr_iconst dX10_nextToken_131 rfl ⟨by decide, by decide⟩ ?_
      obtain ⟨hz9, hh⟩ := hh
      refine rr_iadd dX10_nextToken_132 rfl hz9 ?_
      refine rr_put cf_X10 (j := 6) (by decide) dX10_nextToken_133 rfl q_760 rfl (fty := .int) (by decide +kernel) rfl rfl hh (fun h10 hh => ?_)
      refine rr_goto (pc' := 100) dX10_nextToken_136 (by decide) ?_
      exact hh
set_option maxRecDepth 100000 in
theorem B_X10_nextToken_165 {d : Nat} {h : AbH} {K : Option AbV → AbH → Prop} {x0 : Nat} {bc bs : Nat} (hh : wpGI h (some x0) 9 6 (fun n1 => wpGI h (some x0) 9 4 (fun n2 => ((n2 ≤ n1 → K none h) ∧ (¬ (n2 ≤ n1) → wpGR h (some x0) 9 3 (fun r3 => wpGI h (some x0) 9 6 (fun n4 => wpLI h r3 n4 (fun n5 => Vm d m_X10_isDigit [vI n5] h (kI (fun n7 h6 => ((n7 = 0 → K none h6) ∧ (¬ (n7 = 0) → wpGI h6 (some x0) 9 6 (fun n8 => in32 (n8 + 1) ∧ wpP h6 (some x0) 9 6 (vI (n8 + 1)) (fun h10 => Vx (d + 1) m_X10_nextToken bc bs 165 [some (vR (some x0))] [] h10 K)))))))))))))) : Vx (d + 1) m_X10_nextToken bc bs 165 [some (vR (some x0))] [] h K := by
  refine rr_aload_n dX10_nextToken_165 rfl rfl ?_
  refine rr_getI cf_X10 (j := 6) (by decide) dX10_nextToken_166 rfl q_760 hh (fun n1 hh => ?_)
  refine rr_aload_n dX10_nextToken_169 rfl rfl ?_
  refine rr_getI cf_X10 (j := 4) (by decide) dX10_nextToken_170 rfl q_758 hh (fun n2 hh => ?_)
  refine rr_icmp_ge (tgt := 204) dX10_nextToken_173 rfl (by decide) (fun hc173 => ?_) (fun hc173 => ?_)
  · have hh := hh.1 hc173
    exact rr_vret dX10_nextToken_204 rfl hh
  · have hh := hh.2 hc173
    refine rr_aload_n dX10_nextToken_176 rfl rfl ?_
    refine rr_getR cf_X10 (j := 3) (by decide) dX10_nextToken_177 rfl q_757 hh (fun r3 hh => ?_)
    refine rr_aload_n dX10_nextToken_180 rfl rfl ?_
    refine rr_getI cf_X10 (j := 6) (by decide) dX10_nextToken_181 rfl q_760 hh (fun n4 hh => ?_)
    refine rr_iald dX10_nextToken_184 rfl hh (fun n5 hh => ?_)
    refine rr_callS (bc' := bc) (bs' := bs) (av := [vI n5]) (st := []) mf_X10_isDigit dX10_nextToken_185 rfl q_861 q_862 rfl (by decide) (Nat.le_refl _) (Nat.le_refl _) hh (rr_kI fun n7 h6 hh => ?_)
    refine rr_if_eq (tgt := 204) dX10_nextToken_188 rfl (by decide) (fun hc188 => ?_) (fun hc188 => ?_)
    · have hh := hh.1 hc188
      exact rr_vret dX10_nextToken_204 rfl hh
    · have hh := hh.2 hc188
      refine rr_aload_n dX10_nextToken_191 rfl rfl ?_
      refine rr_dup dX10_nextToken_192 rfl rfl ?_
      refine rr_getI cf_X10 (j := 6) (by decide) dX10_nextToken_193 rfl q_760 hh (fun n8 hh => ?_)
      refine rr_iconst dX10_nextToken_196 rfl ⟨by decide, by decide⟩ ?_
      obtain ⟨hz9, hh⟩ := hh
      refine rr_iadd dX10_nextToken_197 rfl hz9 ?_
      refine rr_put cf_X10 (j := 6) (by decide) dX10_nextToken_198 rfl q_760 rfl (fty := .int) (by decide +kernel) rfl rfl hh (fun h10 hh => ?_)
      refine rr_goto (pc' := 165) dX10_nextToken_201 (by decide) ?_
      exact hh
theorem dX10_wordHere_0 : decode cX10_wordHere 0 = .ok (.iconst 0, 1) := by decide +kernel
theorem dX10_wordHere_1 : decode cX10_wordHere 1 = .ok (.istore_n 1, 1) := by decide +kernel
theorem dX10_wordHere_2 : decode cX10_wordHere 2 = .ok (.iload_n 1, 1) := by decide +kernel
theorem dX10_wordHere_3 : decode cX10_wordHere 3 = .ok (.iconst 4, 1) := by decide +kernel
theorem dX10_wordHere_4 : decode cX10_wordHere 4 = .ok (.if_icmp .ge 109, 3) := by decide +kernel
theorem dX10_wordHere_7 : decode cX10_wordHere 7 = .ok (.aload_n 0, 1) := by decide +kernel
theorem dX10_wordHere_8 : decode cX10_wordHere 8 = .ok (.getfield 80, 3) := by decide +kernel
theorem dX10_wordHere_11 : decode cX10_wordHere 11 = .ok (.aload_n 0, 1) := by decide +kernel
theorem dX10_wordHere_12 : decode cX10_wordHere 12 = .ok (.getfield 83, 3) := by decide +kernel
theorem dX10_wordHere_15 : decode cX10_wordHere 15 = .ok (.if_icmp .le 20, 3) := by decide +kernel
theorem dX10_wordHere_18 : decode cX10_wordHere 18 = .ok (.aload_n 0, 1) := by decide +kernel
theorem dX10_wordHere_19 : decode cX10_wordHere 19 = .ok (.getfield 80, 3) := by decide +kernel
theorem dX10_wordHere_22 : decode cX10_wordHere 22 = .ok (.aload_n 0, 1) := by decide +kernel
theorem dX10_wordHere_23 : decode cX10_wordHere 23 = .ok (.getfield 83, 3) := by decide +kernel
theorem dX10_wordHere_26 : decode cX10_wordHere 26 = .ok (.isub, 1) := by decide +kernel
theorem dX10_wordHere_27 : decode cX10_wordHere 27 = .ok (.iconst 5, 1) := by decide +kernel
theorem dX10_wordHere_28 : decode cX10_wordHere 28 = .ok (.if_icmp .ge 7, 3) := by decide +kernel
theorem dX10_wordHere_31 : decode cX10_wordHere 31 = .ok (.iconst 1, 1) := by decide +kernel
theorem dX10_wordHere_32 : decode cX10_wordHere 32 = .ok (.goto 4, 3) := by decide +kernel
theorem dX10_wordHere_35 : decode cX10_wordHere 35 = .ok (.iconst 0, 1) := by decide +kernel
theorem dX10_wordHere_36 : decode cX10_wordHere 36 = .ok (.istore_n 2, 1) := by decide +kernel
theorem dX10_wordHere_37 : decode cX10_wordHere 37 = .ok (.iconst 0, 1) := by decide +kernel
theorem dX10_wordHere_38 : decode cX10_wordHere 38 = .ok (.istore_n 3, 1) := by decide +kernel
theorem dX10_wordHere_39 : decode cX10_wordHere 39 = .ok (.iload_n 3, 1) := by decide +kernel
theorem dX10_wordHere_40 : decode cX10_wordHere 40 = .ok (.iconst 4, 1) := by decide +kernel
theorem dX10_wordHere_41 : decode cX10_wordHere 41 = .ok (.if_icmp .ge 60, 3) := by decide +kernel
theorem dX10_wordHere_44 : decode cX10_wordHere 44 = .ok (.iload_n 2, 1) := by decide +kernel
theorem dX10_wordHere_45 : decode cX10_wordHere 45 = .ok (.ifCond .eq 56, 3) := by decide +kernel
theorem dX10_wordHere_48 : decode cX10_wordHere 48 = .ok (.aload_n 0, 1) := by decide +kernel
theorem dX10_wordHere_49 : decode cX10_wordHere 49 = .ok (.getfield 26, 3) := by decide +kernel
theorem dX10_wordHere_52 : decode cX10_wordHere 52 = .ok (.iconst 4, 1) := by decide +kernel
theorem dX10_wordHere_53 : decode cX10_wordHere 53 = .ok (.iload_n 1, 1) := by decide +kernel
theorem dX10_wordHere_54 : decode cX10_wordHere 54 = .ok (.imul, 1) := by decide +kernel
theorem dX10_wordHere_55 : decode cX10_wordHere 55 = .ok (.iload_n 3, 1) := by decide +kernel
theorem dX10_wordHere_56 : decode cX10_wordHere 56 = .ok (.iadd, 1) := by decide +kernel
theorem dX10_wordHere_57 : decode cX10_wordHere 57 = .ok (.iaload, 1) := by decide +kernel
theorem dX10_wordHere_58 : decode cX10_wordHere 58 = .ok (.aload_n 0, 1) := by decide +kernel
theorem dX10_wordHere_59 : decode cX10_wordHere 59 = .ok (.getfield 83, 3) := by decide +kernel
theorem dX10_wordHere_62 : decode cX10_wordHere 62 = .ok (.iload_n 3, 1) := by decide +kernel
theorem dX10_wordHere_63 : decode cX10_wordHere 63 = .ok (.iadd, 1) := by decide +kernel
theorem dX10_wordHere_64 : decode cX10_wordHere 64 = .ok (.aload_n 0, 1) := by decide +kernel
theorem dX10_wordHere_65 : decode cX10_wordHere 65 = .ok (.getfield 80, 3) := by decide +kernel
theorem dX10_wordHere_68 : decode cX10_wordHere 68 = .ok (.if_icmp .ge 17, 3) := by decide +kernel
theorem dX10_wordHere_71 : decode cX10_wordHere 71 = .ok (.aload_n 0, 1) := by decide +kernel
theorem dX10_wordHere_72 : decode cX10_wordHere 72 = .ok (.getfield 17, 3) := by decide +kernel
theorem dX10_wordHere_75 : decode cX10_wordHere 75 = .ok (.aload_n 0, 1) := by decide +kernel
theorem dX10_wordHere_76 : decode cX10_wordHere 76 = .ok (.getfield 83, 3) := by decide +kernel
theorem dX10_wordHere_79 : decode cX10_wordHere 79 = .ok (.iload_n 3, 1) := by decide +kernel
theorem dX10_wordHere_80 : decode cX10_wordHere 80 = .ok (.iadd, 1) := by decide +kernel
theorem dX10_wordHere_81 : decode cX10_wordHere 81 = .ok (.iaload, 1) := by decide +kernel
theorem dX10_wordHere_82 : decode cX10_wordHere 82 = .ok (.goto 4, 3) := by decide +kernel
theorem dX10_wordHere_85 : decode cX10_wordHere 85 = .ok (.iconst 0, 1) := by decide +kernel
theorem dX10_wordHere_86 : decode cX10_wordHere 86 = .ok (.if_icmp .ne 7, 3) := by decide +kernel
theorem dX10_wordHere_89 : decode cX10_wordHere 89 = .ok (.iconst 1, 1) := by decide +kernel
theorem dX10_wordHere_90 : decode cX10_wordHere 90 = .ok (.goto 4, 3) := by decide +kernel
theorem dX10_wordHere_93 : decode cX10_wordHere 93 = .ok (.iconst 0, 1) := by decide +kernel
theorem dX10_wordHere_94 : decode cX10_wordHere 94 = .ok (.istore_n 2, 1) := by decide +kernel
theorem dX10_wordHere_95 : decode cX10_wordHere 95 = .ok (.iinc 3 1, 3) := by decide +kernel
theorem dX10_wordHere_98 : decode cX10_wordHere 98 = .ok (.goto (-59), 3) := by decide +kernel
theorem dX10_wordHere_101 : decode cX10_wordHere 101 = .ok (.iload_n 2, 1) := by decide +kernel
theorem dX10_wordHere_102 : decode cX10_wordHere 102 = .ok (.ifCond .eq 5, 3) := by decide +kernel
theorem dX10_wordHere_105 : decode cX10_wordHere 105 = .ok (.iload_n 1, 1) := by decide +kernel
theorem dX10_wordHere_106 : decode cX10_wordHere 106 = .ok (.ireturn, 1) := by decide +kernel
theorem dX10_wordHere_107 : decode cX10_wordHere 107 = .ok (.iinc 1 1, 3) := by decide +kernel
theorem dX10_wordHere_110 : decode cX10_wordHere 110 = .ok (.goto (-108), 3) := by decide +kernel
theorem dX10_wordHere_113 : decode cX10_wordHere 113 = .ok (.iconst (-1), 1) := by decide +kernel
theorem dX10_wordHere_114 : decode cX10_wordHere 114 = .ok (.ireturn, 1) := by decide +kernel
set_option maxRecDepth 100000 in
theorem B_X10_wordHere_0 {d : Nat} {h : AbH} {K : Option AbV → AbH → Prop} {x0 : Nat} (hh : Vx (d + 1) m_X10_wordHere 0 0 2 [some (vR (some x0)), some (vI 0), none, none] [] h K) : Vx (d + 1) m_X10_wordHere 0 0 0 [some (vR (some x0))] [] h K := by
  refine Vx.pad 3 [some (vR (some x0)), none, none, none] rfl ?_
  refine rr_iconst dX10_wordHere_0 rfl ⟨by decide, by decide⟩ ?_
  refine rr_istore_n (ls' := [some (vR (some x0)), some (vI 0), none, none]) dX10_wordHere_1 rfl (by decide) (fun _ z => by cases z) rfl ?_
  exact hh
set_option maxRecDepth 100000 in
theorem B_X10_wordHere_2 {d : Nat} {h : AbH} {K : Option AbV → AbH → Prop} {x0 : Nat} {x1 : Int} {bc bs : Nat} (hh : ((4 ≤ x1 → K (some (vI (-1))) h) ∧ (¬ (4 ≤ x1) → wpGI h (some x0) 9 6 (fun n1 => wpGI h (some x0) 9 5 (fun n2 => ((n1 ≤ n2 → Vx (d + 1) m_X10_wordHere bc bs 39 [some (vR (some x0)), some (vI x1), some (vI 0), some (vI 0)] [] h K) ∧ (¬ (n1 ≤ n2) → wpGI h (some x0) 9 6 (fun n3 => wpGI h (some x0) 9 5 (fun n4 => in32 (n3 - n4) ∧ ((5 ≤ (n3 - n4) → Vx (d + 1) m_X10_wordHere bc bs 39 [some (vR (some x0)), some (vI x1), some (vI 0), some (vI 0)] [] h K) ∧ (¬ (5 ≤ (n3 - n4)) → Vx (d + 1) m_X10_wordHere bc bs 39 [some (vR (some x0)), some (vI x1), some (vI 1), some (vI 0)] [] h K))))))))))) : Vx (d + 1) m_X10_wordHere bc bs 2 [some (vR (some x0)), some (vI x1), none, none] [] h K := by
  refine rr_iload_n dX10_wordHere_2 rfl rfl ?_
  refine rr_iconst dX10_wordHere_3 rfl ⟨by decide, by decide⟩ ?_
  refine rr_icmp_ge (tgt := 113) dX10_wordHere_4 rfl (by decide) (fun hc4 => ?_) (fun hc4 => ?_)
  · have hh := hh.1 hc4
    refine rr_iconst dX10_wordHere_113 rfl ⟨by decide, by decide⟩ ?_
    exact rr_iret dX10_wordHere_114 rfl hh
  · have hh := hh.2 hc4
    refine rr_aload_n dX10_wordHere_7 rfl rfl ?_
    refine rr_getI cf_X10 (j := 6) (by decide) dX10_wordHere_8 rfl q_760 hh (fun n1 hh => ?_)
    refine rr_aload_n dX10_wordHere_11 rfl rfl ?_
    refine rr_getI cf_X10 (j := 5) (by decide) dX10_wordHere_12 rfl q_759 hh (fun n2 hh => ?_)
    refine rr_icmp_le (tgt := 35) dX10_wordHere_15 rfl (by decide) (fun hc15 => ?_) (fun hc15 => ?_)
    · have hh := hh.1 hc15
      refine rr_iconst dX10_wordHere_35 rfl ⟨by decide, by decide⟩ ?_
      refine rr_istore_n (ls' := [some (vR (some x0)), some (vI x1), some (vI 0), none]) dX10_wordHere_36 rfl (by decide) (fun _ z => by cases z) rfl ?_
      refine rr_iconst dX10_wordHere_37 rfl ⟨by decide, by decide⟩ ?_
      refine rr_istore_n (ls' := [some (vR (some x0)), some (vI x1), some (vI 0), some (vI 0)]) dX10_wordHere_38 rfl (by decide) (fun _ z => by cases z) rfl ?_
      exact hh
    · have hh := hh.2 hc15
      refine rr_aload_n dX10_wordHere_18 rfl rfl ?_
      refine rr_getI cf_X10 (j := 6) (by decide) dX10_wordHere_19 rfl q_760 hh (fun n3 hh => ?_)
      refine rr_aload_n dX10_wordHere_22 rfl rfl ?_
      refine rr_getI cf_X10 (j := 5) (by decide) dX10_wordHere_23 rfl q_759 hh (fun n4 hh => ?_)
      obtain ⟨hz5, hh⟩ := hh
      refine rr_isub dX10_wordHere_26 rfl hz5 ?_
      refine rr_iconst dX10_wordHere_27 rfl ⟨by decide, by decide⟩ ?_
      refine rr_icmp_ge (tgt := 35) dX10_wordHere_28 rfl (by decide) (fun hc28 => ?_) (fun hc28 => ?_)
      · have hh := hh.1 hc28
        refine rr_iconst dX10_wordHere_35 rfl ⟨by decide, by decide⟩ ?_
        refine rr_istore_n (ls' := [some (vR (some x0)), some (vI x1), some (vI 0), none]) dX10_wordHere_36 rfl (by decide) (fun _ z => by cases z) rfl ?_
        refine rr_iconst dX10_wordHere_37 rfl ⟨by decide, by decide⟩ ?_
        refine rr_istore_n (ls' := [some (vR (some x0)), some (vI x1), some (vI 0), some (vI 0)]) dX10_wordHere_38 rfl (by decide) (fun _ z => by cases z) rfl ?_
        exact hh
      · have hh := hh.2 hc28
        refine rr_iconst dX10_wordHere_31 rfl ⟨by decide, by decide⟩ ?_
        refine rr_goto (pc' := 36) dX10_wordHere_32 (by decide) ?_
        refine rr_istore_n (ls' := [some (vR (some x0)), some (vI x1), some (vI 1), none]) dX10_wordHere_36 rfl (by decide) (fun _ z => by cases z) rfl ?_
        refine rr_iconst dX10_wordHere_37 rfl ⟨by decide, by decide⟩ ?_
        refine rr_istore_n (ls' := [some (vR (some x0)), some (vI x1), some (vI 1), some (vI 0)]) dX10_wordHere_38 rfl (by decide) (fun _ z => by cases z) rfl ?_
        exact hh
set_option maxRecDepth 100000 in
theorem B_X10_wordHere_39 {d : Nat} {h : AbH} {K : Option AbV → AbH → Prop} {x0 : Nat} {x1 : Int} {x2 : Int} {x3 : Int} {bc bs : Nat} (hh : ((4 ≤ x3 → ((x2 = 0 → in32 (x1 + 1) ∧ Vx (d + 1) m_X10_wordHere bc bs 2 [some (vR (some x0)), some (vI (x1 + 1)), none, none] [] h K) ∧ (¬ (x2 = 0) → K (some (vI x1)) h))) ∧ (¬ (4 ≤ x3) → ((x2 = 0 → ((x2 = 0 → in32 (x1 + 1) ∧ Vx (d + 1) m_X10_wordHere bc bs 2 [some (vR (some x0)), some (vI (x1 + 1)), none, none] [] h K) ∧ (¬ (x2 = 0) → K (some (vI x1)) h))) ∧ (¬ (x2 = 0) → wpGR h (some x0) 9 13 (fun r3 => in32 (4 * x1) ∧ in32 ((4 * x1) + x3) ∧ wpLI h r3 ((4 * x1) + x3) (fun n6 => wpGI h (some x0) 9 5 (fun n7 => in32 (n7 + x3) ∧ wpGI h (some x0) 9 6 (fun n9 => ((n9 ≤ (n7 + x3) → ((n6 ≠ 0 → in32 (x3 + 1) ∧ Vx (d + 1) m_X10_wordHere bc bs 39 [some (vR (some x0)), some (vI x1), some (vI 0), some (vI (x3 + 1))] [] h K) ∧ (¬ (n6 ≠ 0) → in32 (x3 + 1) ∧ Vx (d + 1) m_X10_wordHere bc bs 39 [some (vR (some x0)), some (vI x1), some (vI 1), some (vI (x3 + 1))] [] h K))) ∧ (¬ (n9 ≤ (n7 + x3)) → wpGR h (some x0) 9 3 (fun r12 => wpGI h (some x0) 9 5 (fun n13 => in32 (n13 + x3) ∧ wpLI h r12 (n13 + x3) (fun n15 => ((n6 ≠ n15 → in32 (x3 + 1) ∧ Vx (d + 1) m_X10_wordHere bc bs 39 [some (vR (some x0)), some (vI x1), some (vI 0), some (vI (x3 + 1))] [] h K) ∧ (¬ (n6 ≠ n15) → in32 (x3 + 1) ∧ Vx (d + 1) m_X10_wordHere bc bs 39 [some (vR (some x0)), some (vI x1), some (vI 1), some (vI (x3 + 1))] [] h K)))))))))))))))) : Vx (d + 1) m_X10_wordHere bc bs 39 [some (vR (some x0)), some (vI x1), some (vI x2), some (vI x3)] [] h K := by
  refine rr_iload_n dX10_wordHere_39 rfl rfl ?_
  refine rr_iconst dX10_wordHere_40 rfl ⟨by decide, by decide⟩ ?_
  refine rr_icmp_ge (tgt := 101) dX10_wordHere_41 rfl (by decide) (fun hc41 => ?_) (fun hc41 => ?_)
  · have hh := hh.1 hc41
    refine rr_iload_n dX10_wordHere_101 rfl rfl ?_
    refine rr_if_eq (tgt := 107) dX10_wordHere_102 rfl (by decide) (fun hc102 => ?_) (fun hc102 => ?_)
    · have hh := hh.1 hc102
      obtain ⟨hz1, hh⟩ := hh
      refine rr_iinc (ls' := [some (vR (some x0)), some (vI (x1 + 1)), some (vI x2), some (vI x3)]) dX10_wordHere_107 rfl rfl (by decide) (fun _ z => by cases z) hz1 rfl ?_
      refine rr_goto (pc' := 2) dX10_wordHere_110 (by decide) ?_
      exact Vx.forget (ls' := [some (vR (some x0)), some (vI (x1 + 1)), none, none]) (And.intro rfl (And.intro rfl trivial)) hh
    · have hh := hh.2 hc102
      refine rr_iload_n dX10_wordHere_105 rfl rfl ?_
      exact rr_iret dX10_wordHere_106 rfl hh
  · have hh := hh.2 hc41
    refine rr_iload_n dX10_wordHere_44 rfl rfl ?_
    refine rr_if_eq (tgt := 101) dX10_wordHere_45 rfl (by decide) (fun hc45 => ?_) (fun hc45 => ?_)
    · have hh := hh.1 hc45
      refine rr_iload_n dX10_wordHere_101 rfl rfl ?_
      refine rr_if_eq (tgt := 107) dX10_wordHere_102 rfl (by decide) (fun hc102 => ?_) (fun hc102 => ?_)
      · have hh := hh.1 hc102
        obtain ⟨hz2, hh⟩ := hh
        refine rr_iinc (ls' := [some (vR (some x0)), some (vI (x1 + 1)), some (vI x2), some (vI x3)]) dX10_wordHere_107 rfl rfl (by decide) (fun _ z => by cases z) hz2 rfl ?_
        refine rr_goto (pc' := 2) dX10_wordHere_110 (by decide) ?_
        exact Vx.forget (ls' := [some (vR (some x0)), some (vI (x1 + 1)), none, none]) (And.intro rfl (And.intro rfl trivial)) hh
      · have hh := hh.2 hc102
        refine rr_iload_n dX10_wordHere_105 rfl rfl ?_
        exact rr_iret dX10_wordHere_106 rfl hh
    · have hh := hh.2 hc45
      refine rr_aload_n dX10_wordHere_48 rfl rfl ?_
      refine rr_getR cf_X10 (j := 13) (by decide) dX10_wordHere_49 rfl q_767 hh (fun r3 hh => ?_)
      refine rr_iconst dX10_wordHere_52 rfl ⟨by decide, by decide⟩ ?_
      refine rr_iload_n dX10_wordHere_53 rfl rfl ?_
      obtain ⟨hz4, hh⟩ := hh
      refine rr_imul dX10_wordHere_54 rfl hz4 ?_
      refine rr_iload_n dX10_wordHere_55 rfl rfl ?_
      obtain ⟨hz5, hh⟩ := hh
      refine rr_iadd dX10_wordHere_56 rfl hz5 ?_
      refine rr_iald dX10_wordHere_57 rfl hh (fun n6 hh => ?_)
      refine rr_aload_n dX10_wordHere_58 rfl rfl ?_
      refine rr_getI cf_X10 (j := 5) (by decide) dX10_wordHere_59 rfl q_759 hh (fun n7 hh => ?_)
      refine rr_iload_n dX10_wordHere_62 rfl rfl ?_
      obtain ⟨hz8, hh⟩ := hh
      refine rr_iadd dX10_wordHere_63 rfl hz8 ?_
      refine rr_aload_n dX10_wordHere_64 rfl rfl ?_
      refine rr_getI cf_X10 (j := 6) (by decide) dX10_wordHere_65 rfl q_760 hh (fun n9 hh => ?_)
      refine rr_icmp_ge (tgt := 85) dX10_wordHere_68 rfl (by decide) (fun hc68 => ?_) (fun hc68 => ?_)
      · have hh := hh.1 hc68
        refine rr_iconst dX10_wordHere_85 rfl ⟨by decide, by decide⟩ ?_
        refine rr_icmp_ne (tgt := 93) dX10_wordHere_86 rfl (by decide) (fun hc86 => ?_) (fun hc86 => ?_)
        · have hh := hh.1 hc86
          refine rr_iconst dX10_wordHere_93 rfl ⟨by decide, by decide⟩ ?_
          refine rr_istore_n (ls' := [some (vR (some x0)), some (vI x1), some (vI 0), some (vI x3)]) dX10_wordHere_94 rfl (by decide) (fun _ z => by cases z) rfl ?_
          obtain ⟨hz10, hh⟩ := hh
          refine rr_iinc (ls' := [some (vR (some x0)), some (vI x1), some (vI 0), some (vI (x3 + 1))]) dX10_wordHere_95 rfl rfl (by decide) (fun _ z => by cases z) hz10 rfl ?_
          refine rr_goto (pc' := 39) dX10_wordHere_98 (by decide) ?_
          exact hh
        · have hh := hh.2 hc86
          refine rr_iconst dX10_wordHere_89 rfl ⟨by decide, by decide⟩ ?_
          refine rr_goto (pc' := 94) dX10_wordHere_90 (by decide) ?_
          refine rr_istore_n (ls' := [some (vR (some x0)), some (vI x1), some (vI 1), some (vI x3)]) dX10_wordHere_94 rfl (by decide) (fun _ z => by cases z) rfl ?_
          obtain ⟨hz11, hh⟩ := hh
          refine rr_iinc (ls' := [some (vR (some x0)), some (vI x1), some (vI 1), some (vI (x3 + 1))]) dX10_wordHere_95 rfl rfl (by decide) (fun _ z => by cases z) hz11 rfl ?_
          refine rr_goto (pc' := 39) dX10_wordHere_98 (by decide) ?_
          exact hh
      · have hh := hh.2 hc68
        refine rr_aload_n dX10_wordHere_71 rfl rfl ?_
        refine rr_getR cf_X10 (j := 3) (by decide) dX10_wordHere_72 rfl q_757 hh (fun r12 hh => ?_)
        refine rr_aload_n dX10_wordHere_75 rfl rfl ?_
        refine rr_getI cf_X10 (j := 5) (by decide) dX10_wordHere_76 rfl q_759 hh (fun n13 hh => ?_)
        refine rr_iload_n dX10_wordHere_79 rfl rfl ?_
        obtain ⟨hz14, hh⟩ := hh
        refine rr_iadd dX10_wordHere_80 rfl hz14 ?_
        refine rr_iald dX10_wordHere_81 rfl hh (fun n15 hh => ?_)
        refine rr_goto (pc' := 86) dX10_wordHere_82 (by decide) ?_
        refine rr_icmp_ne (tgt := 93) dX10_wordHere_86 rfl (by decide) (fun hc86 => ?_) (fun hc86 => ?_)
        · have hh := hh.1 hc86
          refine rr_iconst dX10_wordHere_93 rfl ⟨by decide, by decide⟩ ?_
          refine rr_istore_n (ls' := [some (vR (some x0)), some (vI x1), some (vI 0), some (vI x3)]) dX10_wordHere_94 rfl (by decide) (fun _ z => by cases z) rfl ?_
          obtain ⟨hz16, hh⟩ := hh
          refine rr_iinc (ls' := [some (vR (some x0)), some (vI x1), some (vI 0), some (vI (x3 + 1))]) dX10_wordHere_95 rfl rfl (by decide) (fun _ z => by cases z) hz16 rfl ?_
          refine rr_goto (pc' := 39) dX10_wordHere_98 (by decide) ?_
          exact hh
        · have hh := hh.2 hc86
          refine rr_iconst dX10_wordHere_89 rfl ⟨by decide, by decide⟩ ?_
          refine rr_goto (pc' := 94) dX10_wordHere_90 (by decide) ?_
          refine rr_istore_n (ls' := [some (vR (some x0)), some (vI x1), some (vI 1), some (vI x3)]) dX10_wordHere_94 rfl (by decide) (fun _ z => by cases z) rfl ?_
          obtain ⟨hz17, hh⟩ := hh
          refine rr_iinc (ls' := [some (vR (some x0)), some (vI x1), some (vI 1), some (vI (x3 + 1))]) dX10_wordHere_95 rfl rfl (by decide) (fun _ z => by cases z) hz17 rfl ?_
          refine rr_goto (pc' := 39) dX10_wordHere_98 (by decide) ?_
          exact hh
theorem dX10_numberHere_0 : decode cX10_numberHere 0 = .ok (.aload_n 0, 1) := by decide +kernel
theorem dX10_numberHere_1 : decode cX10_numberHere 1 = .ok (.getfield 83, 3) := by decide +kernel
theorem dX10_numberHere_4 : decode cX10_numberHere 4 = .ok (.aload_n 0, 1) := by decide +kernel
theorem dX10_numberHere_5 : decode cX10_numberHere 5 = .ok (.getfield 68, 3) := by decide +kernel
theorem dX10_numberHere_8 : decode cX10_numberHere 8 = .ok (.if_icmp .eq 31, 3) := by decide +kernel
theorem dX10_numberHere_11 : decode cX10_numberHere 11 = .ok (.aload_n 0, 1) := by decide +kernel
theorem dX10_numberHere_12 : decode cX10_numberHere 12 = .ok (.getfield 17, 3) := by decide +kernel
theorem dX10_numberHere_15 : decode cX10_numberHere 15 = .ok (.aload_n 0, 1) := by decide +kernel
theorem dX10_numberHere_16 : decode cX10_numberHere 16 = .ok (.getfield 83, 3) := by decide +kernel
theorem dX10_numberHere_19 : decode cX10_numberHere 19 = .ok (.iaload, 1) := by decide +kernel
theorem dX10_numberHere_20 : decode cX10_numberHere 20 = .ok (.invokestatic 89, 3) := by decide +kernel
theorem dX10_numberHere_23 : decode cX10_numberHere 23 = .ok (.ifCond .eq 16, 3) := by decide +kernel
theorem dX10_numberHere_26 : decode cX10_numberHere 26 = .ok (.aload_n 0, 1) := by decide +kernel
theorem dX10_numberHere_27 : decode cX10_numberHere 27 = .ok (.getfield 80, 3) := by decide +kernel
theorem dX10_numberHere_30 : decode cX10_numberHere 30 = .ok (.aload_n 0, 1) := by decide +kernel
theorem dX10_numberHere_31 : decode cX10_numberHere 31 = .ok (.getfield 83, 3) := by decide +kernel
theorem dX10_numberHere_34 : decode cX10_numberHere 34 = .ok (.isub, 1) := by decide +kernel
theorem dX10_numberHere_35 : decode cX10_numberHere 35 = .ok (.iconst 2, 1) := by decide +kernel
theorem dX10_numberHere_36 : decode cX10_numberHere 36 = .ok (.if_icmp .le 5, 3) := by decide +kernel
theorem dX10_numberHere_39 : decode cX10_numberHere 39 = .ok (.iconst (-1), 1) := by decide +kernel
theorem dX10_numberHere_40 : decode cX10_numberHere 40 = .ok (.ireturn, 1) := by decide +kernel
theorem dX10_numberHere_41 : decode cX10_numberHere 41 = .ok (.iconst 0, 1) := by decide +kernel
theorem dX10_numberHere_42 : decode cX10_numberHere 42 = .ok (.istore_n 1, 1) := by decide +kernel
theorem dX10_numberHere_43 : decode cX10_numberHere 43 = .ok (.aload_n 0, 1) := by decide +kernel
theorem dX10_numberHere_44 : decode cX10_numberHere 44 = .ok (.getfield 83, 3) := by decide +kernel
theorem dX10_numberHere_47 : decode cX10_numberHere 47 = .ok (.istore_n 2, 1) := by decide +kernel
theorem dX10_numberHere_48 : decode cX10_numberHere 48 = .ok (.iload_n 2, 1) := by decide +kernel
theorem dX10_numberHere_49 : decode cX10_numberHere 49 = .ok (.aload_n 0, 1) := by decide +kernel
theorem dX10_numberHere_50 : decode cX10_numberHere 50 = .ok (.getfield 80, 3) := by decide +kernel
theorem dX10_numberHere_53 : decode cX10_numberHere 53 = .ok (.if_icmp .ge 24, 3) := by decide +kernel
theorem dX10_numberHere_56 : decode cX10_numberHere 56 = .ok (.bipush 10, 2) := by decide +kernel
theorem dX10_numberHere_58 : decode cX10_numberHere 58 = .ok (.iload_n 1, 1) := by decide +kernel
theorem dX10_numberHere_59 : decode cX10_numberHere 59 = .ok (.imul, 1) := by decide +kernel
theorem dX10_numberHere_60 : decode cX10_numberHere 60 = .ok (.aload_n 0, 1) := by decide +kernel
theorem dX10_numberHere_61 : decode cX10_numberHere 61 = .ok (.getfield 17, 3) := by decide +kernel
theorem dX10_numberHere_64 : decode cX10_numberHere 64 = .ok (.iload_n 2, 1) := by decide +kernel
theorem dX10_numberHere_65 : decode cX10_numberHere 65 = .ok (.iaload, 1) := by decide +kernel
theorem dX10_numberHere_66 : decode cX10_numberHere 66 = .ok (.iadd, 1) := by decide +kernel
theorem dX10_numberHere_67 : decode cX10_numberHere 67 = .ok (.bipush 48, 2) := by decide +kernel
theorem dX10_numberHere_69 : decode cX10_numberHere 69 = .ok (.isub, 1) := by decide +kernel
theorem dX10_numberHere_70 : decode cX10_numberHere 70 = .ok (.istore_n 1, 1) := by decide +kernel
theorem dX10_numberHere_71 : decode cX10_numberHere 71 = .ok (.iinc 2 1, 3) := by decide +kernel
theorem dX10_numberHere_74 : decode cX10_numberHere 74 = .ok (.goto (-26), 3) := by decide +kernel
theorem dX10_numberHere_77 : decode cX10_numberHere 77 = .ok (.iload_n 1, 1) := by decide +kernel
theorem dX10_numberHere_78 : decode cX10_numberHere 78 = .ok (.ireturn, 1) := by decide +kernel
set_option maxRecDepth 100000 in
theorem B_X10_numberHere_0 {d : Nat} {h : AbH} {K : Option AbV → AbH → Prop} {x0 : Nat} (hh : wpGI h (some x0) 9 5 (fun n1 => wpGI h (some x0) 9 4 (fun n2 => ((n1 = n2 → K (some (vI (-1))) h) ∧ (¬ (n1 = n2) → wpGR h (some x0) 9 3 (fun r3 => wpGI h (some x0) 9 5 (fun n4 => wpLI h r3 n4 (fun n5 => Vm d m_X10_isDigit [vI n5] h (kI (fun n7 h6 => ((n7 = 0 → K (some (vI (-1))) h6) ∧ (¬ (n7 = 0) → wpGI h6 (some x0) 9 6 (fun n8 => wpGI h6 (some x0) 9 5 (fun n9 => in32 (n8 - n9) ∧ (((n8 - n9) ≤ 2 → wpGI h6 (some x0) 9 5 (fun n11 => Vx (d + 1) m_X10_numberHere 0 0 48 [some (vR (some x0)), some (vI 0), some (vI n11)] [] h6 K)) ∧ (¬ ((n8 - n9) ≤ 2) → K (some (vI (-1))) h6)))))))))))))))) : Vx (d + 1) m_X10_numberHere 0 0 0 [some (vR (some x0))] [] h K := by
  refine Vx.pad 2 [some (vR (some x0)), none, none] rfl ?_
  refine rr_aload_n dX10_numberHere_0 rfl rfl ?_
  refine rr_getI cf_X10 (j := 5) (by decide) dX10_numberHere_1 rfl q_759 hh (fun n1 hh => ?_)
  refine rr_aload_n dX10_numberHere_4 rfl rfl ?_
  refine rr_getI cf_X10 (j := 4) (by decide) dX10_numberHere_5 rfl q_758 hh (fun n2 hh => ?_)
  refine rr_icmp_eq (tgt := 39) dX10_numberHere_8 rfl (by decide) (fun hc8 => ?_) (fun hc8 => ?_)
  · have hh := hh.1 hc8
    refine rr_iconst dX10_numberHere_39 rfl ⟨by decide, by decide⟩ ?_
    exact rr_iret dX10_numberHere_40 rfl hh
  · have hh := hh.2 hc8
    refine rr_aload_n dX10_numberHere_11 rfl rfl ?_
    refine rr_getR cf_X10 (j := 3) (by decide) dX10_numberHere_12 rfl q_757 hh (fun r3 hh => ?_)
    refine rr_aload_n dX10_numberHere_15 rfl rfl ?_
    refine rr_getI cf_X10 (j := 5) (by decide) dX10_numberHere_16 rfl q_759 hh (fun n4 hh => ?_)
    refine rr_iald dX10_numberHere_19 rfl hh (fun n5 hh => ?_)
    refine rr_callS (bc' := 0) (bs' := 0) (av := [vI n5]) (st := []) mf_X10_isDigit dX10_numberHere_20 rfl q_861 q_862 rfl (by decide) (Nat.le_refl _) (Nat.le_refl _) hh (rr_kI fun n7 h6 hh => ?_)
    refine rr_if_eq (tgt := 39) dX10_numberHere_23 rfl (by decide) (fun hc23 => ?_) (fun hc23 => ?_)
    · have hh := hh.1 hc23
      refine rr_iconst dX10_numberHere_39 rfl ⟨by decide, by decide⟩ ?_
      exact rr_iret dX10_numberHere_40 rfl hh
    · have hh := hh.2 hc23
      refine rr_aload_n dX10_numberHere_26 rfl rfl ?_
      refine rr_getI cf_X10 (j := 6) (by decide) dX10_numberHere_27 rfl q_760 hh (fun n8 hh => ?_)
      refine rr_aload_n dX10_numberHere_30 rfl rfl ?_
      refine rr_getI cf_X10 (j := 5) (by decide) dX10_numberHere_31 rfl q_759 hh (fun n9 hh => ?_)
      obtain ⟨hz10, hh⟩ := hh
      refine rr_isub dX10_numberHere_34 rfl hz10 ?_
      refine rr_iconst dX10_numberHere_35 rfl ⟨by decide, by decide⟩ ?_
      refine rr_icmp_le (tgt := 41) dX10_numberHere_36 rfl (by decide) (fun hc36 => ?_) (fun hc36 => ?_)
      · have hh := hh.1 hc36
        refine rr_iconst dX10_numberHere_41 rfl ⟨by decide, by decide⟩ ?_
        refine rr_istore_n (ls' := [some (vR (some x0)), some (vI 0), none]) dX10_numberHere_42 rfl (by decide) (fun _ z => by cases z) rfl ?_
        refine rr_aload_n dX10_numberHere_43 rfl rfl ?_
        refine rr_getI cf_X10 (j := 5) (by decide) dX10_numberHere_44 rfl q_759 hh (fun n11 hh => ?_)
        refine rr_istore_n (ls' := [some (vR (some x0)), some (vI 0), some (vI n11)]) dX10_numberHere_47 rfl (by decide) (fun _ z => by cases z) rfl ?_
        exact hh
      · have hh := hh.2 hc36
        refine rr_iconst dX10_numberHere_39 rfl ⟨by decide, by decide⟩ ?_
        exact rr_iret dX10_numberHere_40 rfl hh
set_option maxRecDepth 100000 in
theorem B_X10_numberHere_48 {d : Nat} {h : AbH} {K : Option AbV → AbH → Prop} {x0 : Nat} {x1 : Int} {x2 : Int} {bc bs : Nat} (hh : wpGI h (some x0) 9 6 (fun n1 => ((n1 ≤ x2 → K (some (vI x1)) h) ∧ (¬ (n1 ≤ x2) → in32 (10 * x1) ∧ wpGR h (some x0) 9 3 (fun r3 => wpLI h r3 x2 (fun n4 => in32 ((10 * x1) + n4) ∧ in32 (((10 * x1) + n4) - 48) ∧ in32 (x2 + 1) ∧ Vx (d + 1) m_X10_numberHere bc bs 48 [some (vR (some x0)), some (vI (((10 * x1) + n4) - 48)), some (vI (x2 + 1))] [] h K)))))) : Vx (d + 1) m_X10_numberHere bc bs 48 [some (vR (some x0)), some (vI x1), some (vI x2)] [] h K := by
  refine rr_iload_n dX10_numberHere_48 rfl rfl ?_
  refine rr_aload_n dX10_numberHere_49 rfl rfl ?_
  refine rr_getI cf_X10 (j := 6) (by decide) dX10_numberHere_50 rfl q_760 hh (fun n1 hh => ?_)
  refine rr_icmp_ge (tgt := 77) dX10_numberHere_53 rfl (by decide) (fun hc53 => ?_) (fun hc53 => ?_)
  · have hh := hh.1 hc53
    refine rr_iload_n dX10_numberHere_77 rfl rfl ?_
    exact rr_iret dX10_numberHere_78 rfl hh
  · have hh := hh.2 hc53
    refine rr_bipush dX10_numberHere_56 rfl ⟨by decide, by decide⟩ rfl ?_
    refine rr_iload_n dX10_numberHere_58 rfl rfl ?_
    obtain ⟨hz2, hh⟩ := hh
    refine rr_imul dX10_numberHere_59 rfl hz2 ?_
    refine rr_aload_n dX10_numberHere_60 rfl rfl ?_
    refine rr_getR cf_X10 (j := 3) (by decide) dX10_numberHere_61 rfl q_757 hh (fun r3 hh => ?_)
    refine rr_iload_n dX10_numberHere_64 rfl rfl ?_
    refine rr_iald dX10_numberHere_65 rfl hh (fun n4 hh => ?_)
    obtain ⟨hz5, hh⟩ := hh
    refine rr_iadd dX10_numberHere_66 rfl hz5 ?_
    refine rr_bipush dX10_numberHere_67 rfl ⟨by decide, by decide⟩ rfl ?_
    obtain ⟨hz6, hh⟩ := hh
    refine rr_isub dX10_numberHere_69 rfl hz6 ?_
    refine rr_istore_n (ls' := [some (vR (some x0)), some (vI (((10 * x1) + n4) - 48)), some (vI x2)]) dX10_numberHere_70 rfl (by decide) (fun _ z => by cases z) rfl ?_
    obtain ⟨hz7, hh⟩ := hh
    refine rr_iinc (ls' := [some (vR (some x0)), some (vI (((10 * x1) + n4) - 48)), some (vI (x2 + 1))]) dX10_numberHere_71 rfl rfl (by decide) (fun _ z => by cases z) hz7 rfl ?_
    refine rr_goto (pc' := 48) dX10_numberHere_74 (by decide) ?_
    exact hh
theorem dX10_number_0 : decode cX10_number 0 = .ok (.aload_n 0, 1) := by decide +kernel
theorem dX10_number_1 : decode cX10_number 1 = .ok (.invokevirtual 92, 3) := by decide +kernel
theorem dX10_number_4 : decode cX10_number 4 = .ok (.istore 5, 2) := by decide +kernel
theorem dX10_number_6 : decode cX10_number 6 = .ok (.iload 5, 2) := by decide +kernel
theorem dX10_number_8 : decode cX10_number 8 = .ok (.ifCond .lt 23, 3) := by decide +kernel
theorem dX10_number_11 : decode cX10_number 11 = .ok (.iload 5, 2) := by decide +kernel
theorem dX10_number_13 : decode cX10_number 13 = .ok (.i2l, 1) := by decide +kernel
theorem dX10_number_14 : decode cX10_number 14 = .ok (.iload_n 2, 1) := by decide +kernel
theorem dX10_number_15 : decode cX10_number 15 = .ok (.i2l, 1) := by decide +kernel
theorem dX10_number_16 : decode cX10_number 16 = .ok (.iload_n 3, 1) := by decide +kernel
theorem dX10_number_17 : decode cX10_number 17 = .ok (.i2l, 1) := by decide +kernel
theorem dX10_number_18 : decode cX10_number 18 = .ok (.invokestatic 52, 3) := by decide +kernel
theorem dX10_number_21 : decode cX10_number 21 = .ok (.ifCond .eq 10, 3) := by decide +kernel
theorem dX10_number_24 : decode cX10_number 24 = .ok (.iload 5, 2) := by decide +kernel
theorem dX10_number_26 : decode cX10_number 26 = .ok (.iload 4, 2) := by decide +kernel
theorem dX10_number_28 : decode cX10_number 28 = .ok (.if_icmp .ne 5, 3) := by decide +kernel
theorem dX10_number_31 : decode cX10_number 31 = .ok (.iconst 0, 1) := by decide +kernel
theorem dX10_number_32 : decode cX10_number 32 = .ok (.ireturn, 1) := by decide +kernel
theorem dX10_number_33 : decode cX10_number 33 = .ok (.aload_n 0, 1) := by decide +kernel
theorem dX10_number_34 : decode cX10_number 34 = .ok (.getfield 23, 3) := by decide +kernel
theorem dX10_number_37 : decode cX10_number 37 = .ok (.iload_n 1, 1) := by decide +kernel
theorem dX10_number_38 : decode cX10_number 38 = .ok (.iload 5, 2) := by decide +kernel
theorem dX10_number_40 : decode cX10_number 40 = .ok (.iastore, 1) := by decide +kernel
theorem dX10_number_41 : decode cX10_number 41 = .ok (.aload_n 0, 1) := by decide +kernel
theorem dX10_number_42 : decode cX10_number 42 = .ok (.invokevirtual 96, 3) := by decide +kernel
theorem dX10_number_45 : decode cX10_number 45 = .ok (.iconst 1, 1) := by decide +kernel
theorem dX10_number_46 : decode cX10_number 46 = .ok (.ireturn, 1) := by decide +kernel
set_option maxRecDepth 100000 in
theorem B_X10_number_0 {d : Nat} {h : AbH} {K : Option AbV → AbH → Prop} {x0 : Nat} {x1 : Int} {x2 : Int} {x3 : Int} {x4 : Int} (hh : wpCV h (some x0) 9 (fun b9 => Vm d m_X10_numberHere [vR (some b9)] h (kI (fun n2 h1 => ((n2 < 0 → K (some (vI 0)) h1) ∧ (¬ (n2 < 0) → Vm d m_X10_in [vL n2, vL x2, vL x3] h1 (kI (fun n4 h3 => ((n4 = 0 → K (some (vI 0)) h3) ∧ (¬ (n4 = 0) → ((n2 ≠ x4 → wpGR h3 (some x0) 9 12 (fun r5 => wpSI h3 r5 x1 n2 (fun h6 => wpCV h6 (some x0) 9 (fun b8 => Vm d m_X10_nextToken [vR (some b8)] h6 (kV (fun h7 => K (some (vI 1)) h7)))))) ∧ (¬ (n2 ≠ x4) → K (some (vI 0)) h3)))))))))))) : Vx (d + 1) m_X10_number 0 0 0 [some (vR (some x0)), some (vI x1), some (vI x2), some (vI x3), some (vI x4)] [] h K := by
  refine Vx.pad 1 [some (vR (some x0)), some (vI x1), some (vI x2), some (vI x3), some (vI x4), none] rfl ?_
  refine rr_aload_n dX10_number_0 rfl rfl ?_
  refine rr_callW (bc' := 0) (bs' := 0) (q := (some x0)) (av := []) (st := []) mf_X10_numberHere dX10_number_1 rfl q_882 q_884 qs_32 ⟨_, _, rfl⟩ rfl (by decide) (Nat.le_refl _) (Nat.le_refl _) hh (rr_kI fun n2 h1 hh => ?_)
  refine rr_istore (ls' := [some (vR (some x0)), some (vI x1), some (vI x2), some (vI x3), some (vI x4), some (vI n2)]) dX10_number_4 rfl (by decide) (fun _ z => by cases z) rfl ?_
  refine rr_iload dX10_number_6 rfl rfl ?_
  refine rr_if_lt (tgt := 31) dX10_number_8 rfl (by decide) (fun hc8 => ?_) (fun hc8 => ?_)
  · have hh := hh.1 hc8
    refine rr_iconst dX10_number_31 rfl ⟨by decide, by decide⟩ ?_
    exact rr_zret dX10_number_32 rfl rfl hh
  · have hh := hh.2 hc8
    refine rr_iload dX10_number_11 rfl rfl ?_
    refine rr_i2l dX10_number_13 rfl ?_
    refine rr_iload_n dX10_number_14 rfl rfl ?_
    refine rr_i2l dX10_number_15 rfl ?_
    refine rr_iload_n dX10_number_16 rfl rfl ?_
    refine rr_i2l dX10_number_17 rfl ?_
    refine rr_callS (bc' := 0) (bs' := 0) (av := [vL n2, vL x2, vL x3]) (st := []) mf_X10_in dX10_number_18 rfl q_829 q_830 rfl (by decide) (Nat.le_refl _) (Nat.le_refl _) hh (rr_kI fun n4 h3 hh => ?_)
    refine rr_if_eq (tgt := 31) dX10_number_21 rfl (by decide) (fun hc21 => ?_) (fun hc21 => ?_)
    · have hh := hh.1 hc21
      refine rr_iconst dX10_number_31 rfl ⟨by decide, by decide⟩ ?_
      exact rr_zret dX10_number_32 rfl rfl hh
    · have hh := hh.2 hc21
      refine rr_iload dX10_number_24 rfl rfl ?_
      refine rr_iload dX10_number_26 rfl rfl ?_
      refine rr_icmp_ne (tgt := 33) dX10_number_28 rfl (by decide) (fun hc28 => ?_) (fun hc28 => ?_)
      · have hh := hh.1 hc28
        refine rr_aload_n dX10_number_33 rfl rfl ?_
        refine rr_getR cf_X10 (j := 12) (by decide) dX10_number_34 rfl q_766 hh (fun r5 hh => ?_)
        refine rr_iload_n dX10_number_37 rfl rfl ?_
        refine rr_iload dX10_number_38 rfl rfl ?_
        refine rr_iast dX10_number_40 rfl hh (fun h6 hh => ?_)
        refine rr_aload_n dX10_number_41 rfl rfl ?_
        refine rr_callW (bc' := 0) (bs' := 0) (q := (some x0)) (av := []) (st := []) mf_X10_nextToken dX10_number_42 rfl q_852 q_854 qs_27 ⟨_, _, rfl⟩ rfl (by decide) (Nat.le_refl _) (Nat.le_refl _) hh (rr_kV fun h7 hh => ?_)
        refine rr_iconst dX10_number_45 rfl ⟨by decide, by decide⟩ ?_
        exact rr_zret dX10_number_46 rfl rfl hh
      · have hh := hh.2 hc28
        refine rr_iconst dX10_number_31 rfl ⟨by decide, by decide⟩ ?_
        exact rr_zret dX10_number_32 rfl rfl hh
theorem dX10_isSign_0 : decode cX10_isSign 0 = .ok (.aload_n 0, 1) := by decide +kernel
theorem dX10_isSign_1 : decode cX10_isSign 1 = .ok (.getfield 83, 3) := by decide +kernel
theorem dX10_isSign_4 : decode cX10_isSign 4 = .ok (.aload_n 0, 1) := by decide +kernel
theorem dX10_isSign_5 : decode cX10_isSign 5 = .ok (.getfield 68, 3) := by decide +kernel
theorem dX10_isSign_8 : decode cX10_isSign 8 = .ok (.if_icmp .ge 20, 3) := by decide +kernel
theorem dX10_isSign_11 : decode cX10_isSign 11 = .ok (.aload_n 0, 1) := by decide +kernel
theorem dX10_isSign_12 : decode cX10_isSign 12 = .ok (.getfield 17, 3) := by decide +kernel
theorem dX10_isSign_15 : decode cX10_isSign 15 = .ok (.aload_n 0, 1) := by decide +kernel
theorem dX10_isSign_16 : decode cX10_isSign 16 = .ok (.getfield 83, 3) := by decide +kernel
theorem dX10_isSign_19 : decode cX10_isSign 19 = .ok (.iaload, 1) := by decide +kernel
theorem dX10_isSign_20 : decode cX10_isSign 20 = .ok (.iload_n 1, 1) := by decide +kernel
theorem dX10_isSign_21 : decode cX10_isSign 21 = .ok (.if_icmp .ne 7, 3) := by decide +kernel
theorem dX10_isSign_24 : decode cX10_isSign 24 = .ok (.iconst 1, 1) := by decide +kernel
theorem dX10_isSign_25 : decode cX10_isSign 25 = .ok (.goto 4, 3) := by decide +kernel
theorem dX10_isSign_28 : decode cX10_isSign 28 = .ok (.iconst 0, 1) := by decide +kernel
theorem dX10_isSign_29 : decode cX10_isSign 29 = .ok (.ireturn, 1) := by decide +kernel
set_option maxRecDepth 100000 in
theorem B_X10_isSign_0 {d : Nat} {h : AbH} {K : Option AbV → AbH → Prop} {x0 : Nat} {x1 : Int} (hh : wpGI h (some x0) 9 5 (fun n1 => wpGI h (some x0) 9 4 (fun n2 => ((n2 ≤ n1 → K (some (vI 0)) h) ∧ (¬ (n2 ≤ n1) → wpGR h (some x0) 9 3 (fun r3 => wpGI h (some x0) 9 5 (fun n4 => wpLI h r3 n4 (fun n5 => ((n5 ≠ x1 → K (some (vI 0)) h) ∧ (¬ (n5 ≠ x1) → K (some (vI 1)) h)))))))))) : Vx (d + 1) m_X10_isSign 0 0 0 [some (vR (some x0)), some (vI x1)] [] h K := by
  refine rr_aload_n dX10_isSign_0 rfl rfl ?_
  refine rr_getI cf_X10 (j := 5) (by decide) dX10_isSign_1 rfl q_759 hh (fun n1 hh => ?_)
  refine rr_aload_n dX10_isSign_4 rfl rfl ?_
  refine rr_getI cf_X10 (j := 4) (by decide) dX10_isSign_5 rfl q_758 hh (fun n2 hh => ?_)
  refine rr_icmp_ge (tgt := 28) dX10_isSign_8 rfl (by decide) (fun hc8 => ?_) (fun hc8 => ?_)
  · have hh := hh.1 hc8
    refine rr_iconst dX10_isSign_28 rfl ⟨by decide, by decide⟩ ?_
    exact rr_zret dX10_isSign_29 rfl rfl hh
  · have hh := hh.2 hc8
    refine rr_aload_n dX10_isSign_11 rfl rfl ?_
    refine rr_getR cf_X10 (j := 3) (by decide) dX10_isSign_12 rfl q_757 hh (fun r3 hh => ?_)
    refine rr_aload_n dX10_isSign_15 rfl rfl ?_
    refine rr_getI cf_X10 (j := 5) (by decide) dX10_isSign_16 rfl q_759 hh (fun n4 hh => ?_)
    refine rr_iald dX10_isSign_19 rfl hh (fun n5 hh => ?_)
    refine rr_iload_n dX10_isSign_20 rfl rfl ?_
    refine rr_icmp_ne (tgt := 28) dX10_isSign_21 rfl (by decide) (fun hc21 => ?_) (fun hc21 => ?_)
    · have hh := hh.1 hc21
      refine rr_iconst dX10_isSign_28 rfl ⟨by decide, by decide⟩ ?_
      exact rr_zret dX10_isSign_29 rfl rfl hh
    · have hh := hh.2 hc21
      refine rr_iconst dX10_isSign_24 rfl ⟨by decide, by decide⟩ ?_
      refine rr_goto (pc' := 29) dX10_isSign_25 (by decide) ?_
      exact rr_zret dX10_isSign_29 rfl rfl hh
theorem dX10_readsSound_0 : decode cX10_readsSound 0 = .ok (.aload_n 0, 1) := by decide +kernel
theorem dX10_readsSound_1 : decode cX10_readsSound 1 = .ok (.getfield 83, 3) := by decide +kernel
theorem dX10_readsSound_4 : decode cX10_readsSound 4 = .ok (.aload_n 0, 1) := by decide +kernel
theorem dX10_readsSound_5 : decode cX10_readsSound 5 = .ok (.getfield 68, 3) := by decide +kernel
theorem dX10_readsSound_8 : decode cX10_readsSound 8 = .ok (.if_icmp .eq 47, 3) := by decide +kernel
theorem dX10_readsSound_11 : decode cX10_readsSound 11 = .ok (.aload_n 0, 1) := by decide +kernel
theorem dX10_readsSound_12 : decode cX10_readsSound 12 = .ok (.getfield 17, 3) := by decide +kernel
theorem dX10_readsSound_15 : decode cX10_readsSound 15 = .ok (.aload_n 0, 1) := by decide +kernel
theorem dX10_readsSound_16 : decode cX10_readsSound 16 = .ok (.getfield 83, 3) := by decide +kernel
theorem dX10_readsSound_19 : decode cX10_readsSound 19 = .ok (.iaload, 1) := by decide +kernel
theorem dX10_readsSound_20 : decode cX10_readsSound 20 = .ok (.invokestatic 86, 3) := by decide +kernel
theorem dX10_readsSound_23 : decode cX10_readsSound 23 = .ok (.ifCond .eq 32, 3) := by decide +kernel
theorem dX10_readsSound_26 : decode cX10_readsSound 26 = .ok (.aload_n 0, 1) := by decide +kernel
theorem dX10_readsSound_27 : decode cX10_readsSound 27 = .ok (.getfield 80, 3) := by decide +kernel
theorem dX10_readsSound_30 : decode cX10_readsSound 30 = .ok (.aload_n 0, 1) := by decide +kernel
theorem dX10_readsSound_31 : decode cX10_readsSound 31 = .ok (.getfield 83, 3) := by decide +kernel
theorem dX10_readsSound_34 : decode cX10_readsSound 34 = .ok (.isub, 1) := by decide +kernel
theorem dX10_readsSound_35 : decode cX10_readsSound 35 = .ok (.iconst 1, 1) := by decide +kernel
theorem dX10_readsSound_36 : decode cX10_readsSound 36 = .ok (.if_icmp .gt 19, 3) := by decide +kernel
theorem dX10_readsSound_39 : decode cX10_readsSound 39 = .ok (.aload_n 0, 1) := by decide +kernel
theorem dX10_readsSound_40 : decode cX10_readsSound 40 = .ok (.getfield 17, 3) := by decide +kernel
theorem dX10_readsSound_43 : decode cX10_readsSound 43 = .ok (.aload_n 0, 1) := by decide +kernel
theorem dX10_readsSound_44 : decode cX10_readsSound 44 = .ok (.getfield 83, 3) := by decide +kernel
theorem dX10_readsSound_47 : decode cX10_readsSound 47 = .ok (.iaload, 1) := by decide +kernel
theorem dX10_readsSound_48 : decode cX10_readsSound 48 = .ok (.bipush 97, 2) := by decide +kernel
theorem dX10_readsSound_50 : decode cX10_readsSound 50 = .ok (.isub, 1) := by decide +kernel
theorem dX10_readsSound_51 : decode cX10_readsSound 51 = .ok (.iload_n 2, 1) := by decide +kernel
theorem dX10_readsSound_52 : decode cX10_readsSound 52 = .ok (.if_icmp .ne 5, 3) := by decide +kernel
theorem dX10_readsSound_55 : decode cX10_readsSound 55 = .ok (.iconst 0, 1) := by decide +kernel
theorem dX10_readsSound_56 : decode cX10_readsSound 56 = .ok (.ireturn, 1) := by decide +kernel
theorem dX10_readsSound_57 : decode cX10_readsSound 57 = .ok (.aload_n 0, 1) := by decide +kernel
theorem dX10_readsSound_58 : decode cX10_readsSound 58 = .ok (.getfield 23, 3) := by decide +kernel
theorem dX10_readsSound_61 : decode cX10_readsSound 61 = .ok (.iload_n 1, 1) := by decide +kernel
theorem dX10_readsSound_62 : decode cX10_readsSound 62 = .ok (.aload_n 0, 1) := by decide +kernel
theorem dX10_readsSound_63 : decode cX10_readsSound 63 = .ok (.getfield 17, 3) := by decide +kernel
theorem dX10_readsSound_66 : decode cX10_readsSound 66 = .ok (.aload_n 0, 1) := by decide +kernel
theorem dX10_readsSound_67 : decode cX10_readsSound 67 = .ok (.getfield 83, 3) := by decide +kernel
theorem dX10_readsSound_70 : decode cX10_readsSound 70 = .ok (.iaload, 1) := by decide +kernel
theorem dX10_readsSound_71 : decode cX10_readsSound 71 = .ok (.bipush 97, 2) := by decide +kernel
theorem dX10_readsSound_73 : decode cX10_readsSound 73 = .ok (.isub, 1) := by decide +kernel
theorem dX10_readsSound_74 : decode cX10_readsSound 74 = .ok (.iastore, 1) := by decide +kernel
theorem dX10_readsSound_75 : decode cX10_readsSound 75 = .ok (.aload_n 0, 1) := by decide +kernel
theorem dX10_readsSound_76 : decode cX10_readsSound 76 = .ok (.invokevirtual 96, 3) := by decide +kernel
theorem dX10_readsSound_79 : decode cX10_readsSound 79 = .ok (.iconst 1, 1) := by decide +kernel
theorem dX10_readsSound_80 : decode cX10_readsSound 80 = .ok (.ireturn, 1) := by decide +kernel
set_option maxRecDepth 100000 in
theorem B_X10_readsSound_0 {d : Nat} {h : AbH} {K : Option AbV → AbH → Prop} {x0 : Nat} {x1 : Int} {x2 : Int} (hh : wpGI h (some x0) 9 5 (fun n1 => wpGI h (some x0) 9 4 (fun n2 => ((n1 = n2 → K (some (vI 0)) h) ∧ (¬ (n1 = n2) → wpGR h (some x0) 9 3 (fun r3 => wpGI h (some x0) 9 5 (fun n4 => wpLI h r3 n4 (fun n5 => Vm d m_X10_isSmall [vI n5] h (kI (fun n7 h6 => ((n7 = 0 → K (some (vI 0)) h6) ∧ (¬ (n7 = 0) → wpGI h6 (some x0) 9 6 (fun n8 => wpGI h6 (some x0) 9 5 (fun n9 => in32 (n8 - n9) ∧ ((1 < (n8 - n9) → K (some (vI 0)) h6) ∧ (¬ (1 < (n8 - n9)) → wpGR h6 (some x0) 9 3 (fun r11 => wpGI h6 (some x0) 9 5 (fun n12 => wpLI h6 r11 n12 (fun n13 => in32 (n13 - 97) ∧ (((n13 - 97) ≠ x2 → wpGR h6 (some x0) 9 12 (fun r15 => wpGR h6 (some x0) 9 3 (fun r16 => wpGI h6 (some x0) 9 5 (fun n17 => wpLI h6 r16 n17 (fun n18 => in32 (n18 - 97) ∧ wpSI h6 r15 x1 (n18 - 97) (fun h20 => wpCV h20 (some x0) 9 (fun b22 => Vm d m_X10_nextToken [vR (some b22)] h20 (kV (fun h21 => K (some (vI 1)) h21))))))))) ∧ (¬ ((n13 - 97) ≠ x2) → K (some (vI 0)) h6))))))))))))))))))))) : Vx (d + 1) m_X10_readsSound 0 0 0 [some (vR (some x0)), some (vI x1), some (vI x2)] [] h K := by
  refine rr_aload_n dX10_readsSound_0 rfl rfl ?_
  refine rr_getI cf_X10 (j := 5) (by decide) dX10_readsSound_1 rfl q_759 hh (fun n1 hh => ?_)
  refine rr_aload_n dX10_readsSound_4 rfl rfl ?_
  refine rr_getI cf_X10 (j := 4) (by decide) dX10_readsSound_5 rfl q_758 hh (fun n2 hh => ?_)
  refine rr_icmp_eq (tgt := 55) dX10_readsSound_8 rfl (by decide) (fun hc8 => ?_) (fun hc8 => ?_)
  · have hh := hh.1 hc8
    refine rr_iconst dX10_readsSound_55 rfl ⟨by decide, by decide⟩ ?_
    exact rr_zret dX10_readsSound_56 rfl rfl hh
  · have hh := hh.2 hc8
    refine rr_aload_n dX10_readsSound_11 rfl rfl ?_
    refine rr_getR cf_X10 (j := 3) (by decide) dX10_readsSound_12 rfl q_757 hh (fun r3 hh => ?_)
    refine rr_aload_n dX10_readsSound_15 rfl rfl ?_
    refine rr_getI cf_X10 (j := 5) (by decide) dX10_readsSound_16 rfl q_759 hh (fun n4 hh => ?_)
    refine rr_iald dX10_readsSound_19 rfl hh (fun n5 hh => ?_)
    refine rr_callS (bc' := 0) (bs' := 0) (av := [vI n5]) (st := []) mf_X10_isSmall dX10_readsSound_20 rfl q_856 q_857 rfl (by decide) (Nat.le_refl _) (Nat.le_refl _) hh (rr_kI fun n7 h6 hh => ?_)
    refine rr_if_eq (tgt := 55) dX10_readsSound_23 rfl (by decide) (fun hc23 => ?_) (fun hc23 => ?_)
    · have hh := hh.1 hc23
      refine rr_iconst dX10_readsSound_55 rfl ⟨by decide, by decide⟩ ?_
      exact rr_zret dX10_readsSound_56 rfl rfl hh
    · have hh := hh.2 hc23
      refine rr_aload_n dX10_readsSound_26 rfl rfl ?_
      refine rr_getI cf_X10 (j := 6) (by decide) dX10_readsSound_27 rfl q_760 hh (fun n8 hh => ?_)
      refine rr_aload_n dX10_readsSound_30 rfl rfl ?_
      refine rr_getI cf_X10 (j := 5) (by decide) dX10_readsSound_31 rfl q_759 hh (fun n9 hh => ?_)
      obtain ⟨hz10, hh⟩ := hh
      refine rr_isub dX10_readsSound_34 rfl hz10 ?_
      refine rr_iconst dX10_readsSound_35 rfl ⟨by decide, by decide⟩ ?_
      refine rr_icmp_gt (tgt := 55) dX10_readsSound_36 rfl (by decide) (fun hc36 => ?_) (fun hc36 => ?_)
      · have hh := hh.1 hc36
        refine rr_iconst dX10_readsSound_55 rfl ⟨by decide, by decide⟩ ?_
        exact rr_zret dX10_readsSound_56 rfl rfl hh
      · have hh := hh.2 hc36
        refine rr_aload_n dX10_readsSound_39 rfl rfl ?_
        refine rr_getR cf_X10 (j := 3) (by decide) dX10_readsSound_40 rfl q_757 hh (fun r11 hh => ?_)
        refine rr_aload_n dX10_readsSound_43 rfl rfl ?_
        refine rr_getI cf_X10 (j := 5) (by decide) dX10_readsSound_44 rfl q_759 hh (fun n12 hh => ?_)
        refine rr_iald dX10_readsSound_47 rfl hh (fun n13 hh => ?_)
        refine rr_bipush dX10_readsSound_48 rfl ⟨by decide, by decide⟩ rfl ?_
        obtain ⟨hz14, hh⟩ := hh
        refine rr_isub dX10_readsSound_50 rfl hz14 ?_
        refine rr_iload_n dX10_readsSound_51 rfl rfl ?_
        refine rr_icmp_ne (tgt := 57) dX10_readsSound_52 rfl (by decide) (fun hc52 => ?_) (fun hc52 => ?_)
        · have hh := hh.1 hc52
          refine rr_aload_n dX10_readsSound_57 rfl rfl ?_
          refine rr_getR cf_X10 (j := 12) (by decide) dX10_readsSound_58 rfl q_766 hh (fun r15 hh => ?_)
          refine rr_iload_n dX10_readsSound_61 rfl rfl ?_
          refine rr_aload_n dX10_readsSound_62 rfl rfl ?_
          refine rr_getR cf_X10 (j := 3) (by decide) dX10_readsSound_63 rfl q_757 hh (fun r16 hh => ?_)
          refine rr_aload_n dX10_readsSound_66 rfl rfl ?_
          refine rr_getI cf_X10 (j := 5) (by decide) dX10_readsSound_67 rfl q_759 hh (fun n17 hh => ?_)
          refine rr_iald dX10_readsSound_70 rfl hh (fun n18 hh => ?_)
          refine rr_bipush dX10_readsSound_71 rfl ⟨by decide, by decide⟩ rfl ?_
          obtain ⟨hz19, hh⟩ := hh
          refine rr_isub dX10_readsSound_73 rfl hz19 ?_
          refine rr_iast dX10_readsSound_74 rfl hh (fun h20 hh => ?_)
          refine rr_aload_n dX10_readsSound_75 rfl rfl ?_
          refine rr_callW (bc' := 0) (bs' := 0) (q := (some x0)) (av := []) (st := []) mf_X10_nextToken dX10_readsSound_76 rfl q_852 q_854 qs_27 ⟨_, _, rfl⟩ rfl (by decide) (Nat.le_refl _) (Nat.le_refl _) hh (rr_kV fun h21 hh => ?_)
          refine rr_iconst dX10_readsSound_79 rfl ⟨by decide, by decide⟩ ?_
          exact rr_zret dX10_readsSound_80 rfl rfl hh
        · have hh := hh.2 hc52
          refine rr_iconst dX10_readsSound_55 rfl ⟨by decide, by decide⟩ ?_
          exact rr_zret dX10_readsSound_56 rfl rfl hh
theorem dX10_lostOrSound_0 : decode cX10_lostOrSound 0 = .ok (.aload_n 0, 1) := by decide +kernel
theorem dX10_lostOrSound_1 : decode cX10_lostOrSound 1 = .ok (.bipush 45, 2) := by decide +kernel
theorem dX10_lostOrSound_3 : decode cX10_lostOrSound 3 = .ok (.invokevirtual 99, 3) := by decide +kernel
theorem dX10_lostOrSound_6 : decode cX10_lostOrSound 6 = .ok (.ifCond .eq 16, 3) := by decide +kernel
theorem dX10_lostOrSound_9 : decode cX10_lostOrSound 9 = .ok (.aload_n 0, 1) := by decide +kernel
theorem dX10_lostOrSound_10 : decode cX10_lostOrSound 10 = .ok (.getfield 23, 3) := by decide +kernel
theorem dX10_lostOrSound_13 : decode cX10_lostOrSound 13 = .ok (.iload_n 1, 1) := by decide +kernel
theorem dX10_lostOrSound_14 : decode cX10_lostOrSound 14 = .ok (.iconst (-1), 1) := by decide +kernel
theorem dX10_lostOrSound_15 : decode cX10_lostOrSound 15 = .ok (.iastore, 1) := by decide +kernel
theorem dX10_lostOrSound_16 : decode cX10_lostOrSound 16 = .ok (.aload_n 0, 1) := by decide +kernel
theorem dX10_lostOrSound_17 : decode cX10_lostOrSound 17 = .ok (.invokevirtual 96, 3) := by decide +kernel
theorem dX10_lostOrSound_20 : decode cX10_lostOrSound 20 = .ok (.iconst 1, 1) := by decide +kernel
theorem dX10_lostOrSound_21 : decode cX10_lostOrSound 21 = .ok (.ireturn, 1) := by decide +kernel
theorem dX10_lostOrSound_22 : decode cX10_lostOrSound 22 = .ok (.aload_n 0, 1) := by decide +kernel
theorem dX10_lostOrSound_23 : decode cX10_lostOrSound 23 = .ok (.iload_n 1, 1) := by decide +kernel
theorem dX10_lostOrSound_24 : decode cX10_lostOrSound 24 = .ok (.iload_n 2, 1) := by decide +kernel
theorem dX10_lostOrSound_25 : decode cX10_lostOrSound 25 = .ok (.invokevirtual 102, 3) := by decide +kernel
theorem dX10_lostOrSound_28 : decode cX10_lostOrSound 28 = .ok (.ireturn, 1) := by decide +kernel
set_option maxRecDepth 100000 in
theorem B_X10_lostOrSound_0 {d : Nat} {h : AbH} {K : Option AbV → AbH → Prop} {x0 : Nat} {x1 : Int} {x2 : Int} (hh : wpCV h (some x0) 9 (fun b11 => Vm d m_X10_isSign [vR (some b11), vI 45] h (kI (fun n2 h1 => ((n2 = 0 → wpCV h1 (some x0) 9 (fun b6 => Vm d m_X10_readsSound [vR (some b6), vI x1, vI x2] h1 (kI (fun n4 h3 => ab_z01 n4 ∧ K (some (vI n4)) h3)))) ∧ (¬ (n2 = 0) → wpGR h1 (some x0) 9 12 (fun r7 => wpSI h1 r7 x1 (-1) (fun h8 => wpCV h8 (some x0) 9 (fun b10 => Vm d m_X10_nextToken [vR (some b10)] h8 (kV (fun h9 => K (some (vI 1)) h9))))))))))) : Vx (d + 1) m_X10_lostOrSound 0 0 0 [some (vR (some x0)), some (vI x1), some (vI x2)] [] h K := by
  refine rr_aload_n dX10_lostOrSound_0 rfl rfl ?_
  refine rr_bipush dX10_lostOrSound_1 rfl ⟨by decide, by decide⟩ rfl ?_
  refine rr_callW (bc' := 0) (bs' := 0) (q := (some x0)) (av := [vI 45]) (st := []) mf_X10_isSign dX10_lostOrSound_3 rfl q_895 q_897 qs_35 ⟨_, _, rfl⟩ rfl (by decide) (Nat.le_refl _) (Nat.le_refl _) hh (rr_kI fun n2 h1 hh => ?_)
  refine rr_if_eq (tgt := 22) dX10_lostOrSound_6 rfl (by decide) (fun hc6 => ?_) (fun hc6 => ?_)
  · have hh := hh.1 hc6
    refine rr_aload_n dX10_lostOrSound_22 rfl rfl ?_
    refine rr_iload_n dX10_lostOrSound_23 rfl rfl ?_
    refine rr_iload_n dX10_lostOrSound_24 rfl rfl ?_
    refine rr_callW (bc' := 0) (bs' := 0) (q := (some x0)) (av := [vI x1, vI x2]) (st := []) mf_X10_readsSound dX10_lostOrSound_25 rfl q_887 q_889 qs_33 ⟨_, _, rfl⟩ rfl (by decide) (Nat.le_refl _) (Nat.le_refl _) hh (rr_kI fun n4 h3 hh => ?_)
    obtain ⟨hz5, hh⟩ := hh
    exact rr_zret dX10_lostOrSound_28 rfl (zn_b hz5) hh
  · have hh := hh.2 hc6
    refine rr_aload_n dX10_lostOrSound_9 rfl rfl ?_
    refine rr_getR cf_X10 (j := 12) (by decide) dX10_lostOrSound_10 rfl q_766 hh (fun r7 hh => ?_)
    refine rr_iload_n dX10_lostOrSound_13 rfl rfl ?_
    refine rr_iconst dX10_lostOrSound_14 rfl ⟨by decide, by decide⟩ ?_
    refine rr_iast dX10_lostOrSound_15 rfl hh (fun h8 hh => ?_)
    refine rr_aload_n dX10_lostOrSound_16 rfl rfl ?_
    refine rr_callW (bc' := 0) (bs' := 0) (q := (some x0)) (av := []) (st := []) mf_X10_nextToken dX10_lostOrSound_17 rfl q_852 q_854 qs_27 ⟨_, _, rfl⟩ rfl (by decide) (Nat.le_refl _) (Nat.le_refl _) hh (rr_kV fun h9 hh => ?_)
    refine rr_iconst dX10_lostOrSound_20 rfl ⟨by decide, by decide⟩ ?_
    exact rr_zret dX10_lostOrSound_21 rfl rfl hh
theorem dX10_where_0 : decode cX10_where 0 = .ok (.aload_n 0, 1) := by decide +kernel
theorem dX10_where_1 : decode cX10_where 1 = .ok (.getfield 23, 3) := by decide +kernel
theorem dX10_where_4 : decode cX10_where 4 = .ok (.iconst 4, 1) := by decide +kernel
theorem dX10_where_5 : decode cX10_where 5 = .ok (.aload_n 0, 1) := by decide +kernel
theorem dX10_where_6 : decode cX10_where 6 = .ok (.bipush 46, 2) := by decide +kernel
theorem dX10_where_8 : decode cX10_where 8 = .ok (.invokevirtual 99, 3) := by decide +kernel
theorem dX10_where_11 : decode cX10_where 11 = .ok (.ifCond .eq 7, 3) := by decide +kernel
theorem dX10_where_14 : decode cX10_where 14 = .ok (.iconst 0, 1) := by decide +kernel
theorem dX10_where_15 : decode cX10_where 15 = .ok (.goto 30, 3) := by decide +kernel
theorem dX10_where_18 : decode cX10_where 18 = .ok (.aload_n 0, 1) := by decide +kernel
theorem dX10_where_19 : decode cX10_where 19 = .ok (.bipush 62, 2) := by decide +kernel
theorem dX10_where_21 : decode cX10_where 21 = .ok (.invokevirtual 99, 3) := by decide +kernel
theorem dX10_where_24 : decode cX10_where 24 = .ok (.ifCond .eq 7, 3) := by decide +kernel
theorem dX10_where_27 : decode cX10_where 27 = .ok (.iconst 1, 1) := by decide +kernel
theorem dX10_where_28 : decode cX10_where 28 = .ok (.goto 17, 3) := by decide +kernel
theorem dX10_where_31 : decode cX10_where 31 = .ok (.aload_n 0, 1) := by decide +kernel
theorem dX10_where_32 : decode cX10_where 32 = .ok (.bipush 60, 2) := by decide +kernel
theorem dX10_where_34 : decode cX10_where 34 = .ok (.invokevirtual 99, 3) := by decide +kernel
theorem dX10_where_37 : decode cX10_where 37 = .ok (.ifCond .eq 7, 3) := by decide +kernel
theorem dX10_where_40 : decode cX10_where 40 = .ok (.iconst 2, 1) := by decide +kernel
theorem dX10_where_41 : decode cX10_where 41 = .ok (.goto 4, 3) := by decide +kernel
theorem dX10_where_44 : decode cX10_where 44 = .ok (.iconst (-1), 1) := by decide +kernel
theorem dX10_where_45 : decode cX10_where 45 = .ok (.iastore, 1) := by decide +kernel
theorem dX10_where_46 : decode cX10_where 46 = .ok (.aload_n 0, 1) := by decide +kernel
theorem dX10_where_47 : decode cX10_where 47 = .ok (.getfield 23, 3) := by decide +kernel
theorem dX10_where_50 : decode cX10_where 50 = .ok (.iconst 5, 1) := by decide +kernel
theorem dX10_where_51 : decode cX10_where 51 = .ok (.iconst (-1), 1) := by decide +kernel
theorem dX10_where_52 : decode cX10_where 52 = .ok (.iastore, 1) := by decide +kernel
theorem dX10_where_53 : decode cX10_where 53 = .ok (.aload_n 0, 1) := by decide +kernel
theorem dX10_where_54 : decode cX10_where 54 = .ok (.getfield 23, 3) := by decide +kernel
theorem dX10_where_57 : decode cX10_where 57 = .ok (.iconst 4, 1) := by decide +kernel
theorem dX10_where_58 : decode cX10_where 58 = .ok (.iaload, 1) := by decide +kernel
theorem dX10_where_59 : decode cX10_where 59 = .ok (.iconst (-1), 1) := by decide +kernel
theorem dX10_where_60 : decode cX10_where 60 = .ok (.if_icmp .ne 5, 3) := by decide +kernel
theorem dX10_where_63 : decode cX10_where 63 = .ok (.iconst 0, 1) := by decide +kernel
theorem dX10_where_64 : decode cX10_where 64 = .ok (.ireturn, 1) := by decide +kernel
theorem dX10_where_65 : decode cX10_where 65 = .ok (.aload_n 0, 1) := by decide +kernel
theorem dX10_where_66 : decode cX10_where 66 = .ok (.invokevirtual 96, 3) := by decide +kernel
theorem dX10_where_69 : decode cX10_where 69 = .ok (.aload_n 0, 1) := by decide +kernel
theorem dX10_where_70 : decode cX10_where 70 = .ok (.getfield 23, 3) := by decide +kernel
theorem dX10_where_73 : decode cX10_where 73 = .ok (.iconst 4, 1) := by decide +kernel
theorem dX10_where_74 : decode cX10_where 74 = .ok (.iaload, 1) := by decide +kernel
theorem dX10_where_75 : decode cX10_where 75 = .ok (.ifCond .eq 12, 3) := by decide +kernel
theorem dX10_where_78 : decode cX10_where 78 = .ok (.aload_n 0, 1) := by decide +kernel
theorem dX10_where_79 : decode cX10_where 79 = .ok (.iconst 5, 1) := by decide +kernel
theorem dX10_where_80 : decode cX10_where 80 = .ok (.iconst (-1), 1) := by decide +kernel
theorem dX10_where_81 : decode cX10_where 81 = .ok (.invokevirtual 102, 3) := by decide +kernel
theorem dX10_where_84 : decode cX10_where 84 = .ok (.ifCond .eq 7, 3) := by decide +kernel
theorem dX10_where_87 : decode cX10_where 87 = .ok (.iconst 1, 1) := by decide +kernel
theorem dX10_where_88 : decode cX10_where 88 = .ok (.goto 4, 3) := by decide +kernel
theorem dX10_where_91 : decode cX10_where 91 = .ok (.iconst 0, 1) := by decide +kernel
theorem dX10_where_92 : decode cX10_where 92 = .ok (.ireturn, 1) := by decide +kernel
set_option maxRecDepth 100000 in
theorem B_X10_where_0 {d : Nat} {h : AbH} {K : Option AbV → AbH → Prop} {x0 : Nat} (hh : wpGR h (some x0) 9 12 (fun r1 => wpCV h (some x0) 9 (fun b58 => Vm d m_X10_isSign [vR (some b58), vI 46] h (kI (fun n3 h2 => ((n3 = 0 → wpCV h2 (some x0) 9 (fun b45 => Vm d m_X10_isSign [vR (some b45), vI 62] h2 (kI (fun n5 h4 => ((n5 = 0 → wpCV h4 (some x0) 9 (fun b32 => Vm d m_X10_isSign [vR (some b32), vI 60] h4 (kI (fun n7 h6 => ((n7 = 0 → wpSI h6 r1 4 (-1) (fun h8 => wpGR h8 (some x0) 9 12 (fun r9 => wpSI h8 r9 5 (-1) (fun h10 => wpGR h10 (some x0) 9 12 (fun r11 => wpLI h10 r11 4 (fun n12 => ((n12 ≠ (-1) → wpCV h10 (some x0) 9 (fun b19 => Vm d m_X10_nextToken [vR (some b19)] h10 (kV (fun h13 => wpGR h13 (some x0) 9 12 (fun r14 => wpLI h13 r14 4 (fun n15 => ((n15 = 0 → K (some (vI 1)) h13) ∧ (¬ (n15 = 0) → wpCV h13 (some x0) 9 (fun b18 => Vm d m_X10_readsSound [vR (some b18), vI 5, vI (-1)] h13 (kI (fun n17 h16 => ((n17 = 0 → K (some (vI 0)) h16) ∧ (¬ (n17 = 0) → K (some (vI 1)) h16))))))))))))) ∧ (¬ (n12 ≠ (-1)) → K (some (vI 0)) h10)))))))) ∧ (¬ (n7 = 0) → wpSI h6 r1 4 2 (fun h20 => wpGR h20 (some x0) 9 12 (fun r21 => wpSI h20 r21 5 (-1) (fun h22 => wpGR h22 (some x0) 9 12 (fun r23 => wpLI h22 r23 4 (fun n24 => ((n24 ≠ (-1) → wpCV h22 (some x0) 9 (fun b31 => Vm d m_X10_nextToken [vR (some b31)] h22 (kV (fun h25 => wpGR h25 (some x0) 9 12 (fun r26 => wpLI h25 r26 4 (fun n27 => ((n27 = 0 → K (some (vI 1)) h25) ∧ (¬ (n27 = 0) → wpCV h25 (some x0) 9 (fun b30 => Vm d m_X10_readsSound [vR (some b30), vI 5, vI (-1)] h25 (kI (fun n29 h28 => ((n29 = 0 → K (some (vI 0)) h28) ∧ (¬ (n29 = 0) → K (some (vI 1)) h28))))))))))))) ∧ (¬ (n24 ≠ (-1)) → K (some (vI 0)) h22))))))))))))) ∧ (¬ (n5 = 0) → wpSI h4 r1 4 1 (fun h33 => wpGR h33 (some x0) 9 12 (fun r34 => wpSI h33 r34 5 (-1) (fun h35 => wpGR h35 (some x0) 9 12 (fun r36 => wpLI h35 r36 4 (fun n37 => ((n37 ≠ (-1) → wpCV h35 (some x0) 9 (fun b44 => Vm d m_X10_nextToken [vR (some b44)] h35 (kV (fun h38 => wpGR h38 (some x0) 9 12 (fun r39 => wpLI h38 r39 4 (fun n40 => ((n40 = 0 → K (some (vI 1)) h38) ∧ (¬ (n40 = 0) → wpCV h38 (some x0) 9 (fun b43 => Vm d m_X10_readsSound [vR (some b43), vI 5, vI (-1)] h38 (kI (fun n42 h41 => ((n42 = 0 → K (some (vI 0)) h41) ∧ (¬ (n42 = 0) → K (some (vI 1)) h41))))))))))))) ∧ (¬ (n37 ≠ (-1)) → K (some (vI 0)) h35))))))))))))) ∧ (¬ (n3 = 0) → wpSI h2 r1 4 0 (fun h46 => wpGR h46 (some x0) 9 12 (fun r47 => wpSI h46 r47 5 (-1) (fun h48 => wpGR h48 (some x0) 9 12 (fun r49 => wpLI h48 r49 4 (fun n50 => ((n50 ≠ (-1) → wpCV h48 (some x0) 9 (fun b57 => Vm d m_X10_nextToken [vR (some b57)] h48 (kV (fun h51 => wpGR h51 (some x0) 9 12 (fun r52 => wpLI h51 r52 4 (fun n53 => ((n53 = 0 → K (some (vI 1)) h51) ∧ (¬ (n53 = 0) → wpCV h51 (some x0) 9 (fun b56 => Vm d m_X10_readsSound [vR (some b56), vI 5, vI (-1)] h51 (kI (fun n55 h54 => ((n55 = 0 → K (some (vI 0)) h54) ∧ (¬ (n55 = 0) → K (some (vI 1)) h54))))))))))))) ∧ (¬ (n50 ≠ (-1)) → K (some (vI 0)) h48)))))))))))))) : Vx (d + 1) m_X10_where 0 0 0 [some (vR (some x0))] [] h K := by
  refine rr_aload_n dX10_where_0 rfl rfl ?_
  refine rr_getR cf_X10 (j := 12) (by decide) dX10_where_1 rfl q_766 hh (fun r1 hh => ?_)
  refine rr_iconst dX10_where_4 rfl ⟨by decide, by decide⟩ ?_
  refine rr_aload_n dX10_where_5 rfl rfl ?_
  refine rr_bipush dX10_where_6 rfl ⟨by decide, by decide⟩ rfl ?_
  refine rr_callW (bc' := 0) (bs' := 0) (q := (some x0)) (av := [vI 46]) (st := [vI 4, vR r1]) mf_X10_isSign dX10_where_8 rfl q_895 q_897 qs_35 ⟨_, _, rfl⟩ rfl (cs_le _ (Nat.le_of_ble_eq_true rfl)) (Nat.le_refl _) (Nat.le_refl _) hh (rr_kI fun n3 h2 hh => ?_)
  refine rr_if_eq (tgt := 18) dX10_where_11 rfl (by decide) (fun hc11 => ?_) (fun hc11 => ?_)
  · have hh := hh.1 hc11
    refine rr_aload_n dX10_where_18 rfl rfl ?_
    refine rr_bipush dX10_where_19 rfl ⟨by decide, by decide⟩ rfl ?_
    refine rr_callW (bc' := 0) (bs' := 0) (q := (some x0)) (av := [vI 62]) (st := [vI 4, vR r1]) mf_X10_isSign dX10_where_21 rfl q_895 q_897 qs_35 ⟨_, _, rfl⟩ rfl (cs_le _ (Nat.le_of_ble_eq_true rfl)) (Nat.le_refl _) (Nat.le_refl _) hh (rr_kI fun n5 h4 hh => ?_)
    refine rr_if_eq (tgt := 31) dX10_where_24 rfl (by decide) (fun hc24 => ?_) (fun hc24 => ?_)
    · have hh := hh.1 hc24
      refine rr_aload_n dX10_where_31 rfl rfl ?_
      refine rr_bipush dX10_where_32 rfl ⟨by decide, by decide⟩ rfl ?_
      refine rr_callW (bc' := 0) (bs' := 0) (q := (some x0)) (av := [vI 60]) (st := [vI 4, vR r1]) mf_X10_isSign dX10_where_34 rfl q_895 q_897 qs_35 ⟨_, _, rfl⟩ rfl (cs_le _ (Nat.le_of_ble_eq_true rfl)) (Nat.le_refl _) (Nat.le_refl _) hh (rr_kI fun n7 h6 hh => ?_)
      refine rr_if_eq (tgt := 44) dX10_where_37 rfl (by decide) (fun hc37 => ?_) (fun hc37 => ?_)
      · have hh := hh.1 hc37
        refine rr_iconst dX10_where_44 rfl ⟨by decide, by decide⟩ ?_
        refine rr_iast dX10_where_45 rfl hh (fun h8 hh => ?_)
        refine rr_aload_n dX10_where_46 rfl rfl ?_
        refine rr_getR cf_X10 (j := 12) (by decide) dX10_where_47 rfl q_766 hh (fun r9 hh => ?_)
        refine rr_iconst dX10_where_50 rfl ⟨by decide, by decide⟩ ?_
        refine rr_iconst dX10_where_51 rfl ⟨by decide, by decide⟩ ?_
        refine rr_iast dX10_where_52 rfl hh (fun h10 hh => ?_)
        refine rr_aload_n dX10_where_53 rfl rfl ?_
        refine rr_getR cf_X10 (j := 12) (by decide) dX10_where_54 rfl q_766 hh (fun r11 hh => ?_)
        refine rr_iconst dX10_where_57 rfl ⟨by decide, by decide⟩ ?_
        refine rr_iald dX10_where_58 rfl hh (fun n12 hh => ?_)
        refine rr_iconst dX10_where_59 rfl ⟨by decide, by decide⟩ ?_
        refine rr_icmp_ne (tgt := 65) dX10_where_60 rfl (by decide) (fun hc60 => ?_) (fun hc60 => ?_)
        · have hh := hh.1 hc60
          refine rr_aload_n dX10_where_65 rfl rfl ?_
          refine rr_callW (bc' := 0) (bs' := 0) (q := (some x0)) (av := []) (st := []) mf_X10_nextToken dX10_where_66 rfl q_852 q_854 qs_27 ⟨_, _, rfl⟩ rfl (by decide) (Nat.le_refl _) (Nat.le_refl _) hh (rr_kV fun h13 hh => ?_)
          refine rr_aload_n dX10_where_69 rfl rfl ?_
          refine rr_getR cf_X10 (j := 12) (by decide) dX10_where_70 rfl q_766 hh (fun r14 hh => ?_)
          refine rr_iconst dX10_where_73 rfl ⟨by decide, by decide⟩ ?_
          refine rr_iald dX10_where_74 rfl hh (fun n15 hh => ?_)
          refine rr_if_eq (tgt := 87) dX10_where_75 rfl (by decide) (fun hc75 => ?_) (fun hc75 => ?_)
          · have hh := hh.1 hc75
            refine rr_iconst dX10_where_87 rfl ⟨by decide, by decide⟩ ?_
            refine rr_goto (pc' := 92) dX10_where_88 (by decide) ?_
            exact rr_zret dX10_where_92 rfl rfl hh
          · have hh := hh.2 hc75
            refine rr_aload_n dX10_where_78 rfl rfl ?_
            refine rr_iconst dX10_where_79 rfl ⟨by decide, by decide⟩ ?_
            refine rr_iconst dX10_where_80 rfl ⟨by decide, by decide⟩ ?_
            refine rr_callW (bc' := 0) (bs' := 0) (q := (some x0)) (av := [vI 5, vI (-1)]) (st := []) mf_X10_readsSound dX10_where_81 rfl q_887 q_889 qs_33 ⟨_, _, rfl⟩ rfl (by decide) (Nat.le_refl _) (Nat.le_refl _) hh (rr_kI fun n17 h16 hh => ?_)
            refine rr_if_eq (tgt := 91) dX10_where_84 rfl (by decide) (fun hc84 => ?_) (fun hc84 => ?_)
            · have hh := hh.1 hc84
              refine rr_iconst dX10_where_91 rfl ⟨by decide, by decide⟩ ?_
              exact rr_zret dX10_where_92 rfl rfl hh
            · have hh := hh.2 hc84
              refine rr_iconst dX10_where_87 rfl ⟨by decide, by decide⟩ ?_
              refine rr_goto (pc' := 92) dX10_where_88 (by decide) ?_
              exact rr_zret dX10_where_92 rfl rfl hh
        · have hh := hh.2 hc60
          refine rr_iconst dX10_where_63 rfl ⟨by decide, by decide⟩ ?_
          exact rr_zret dX10_where_64 rfl rfl hh
      · have hh := hh.2 hc37
        refine rr_iconst dX10_where_40 rfl ⟨by decide, by decide⟩ ?_
        refine rr_goto (pc' := 45) dX10_where_41 (by decide) ?_
        refine rr_iast dX10_where_45 rfl hh (fun h20 hh => ?_)
        refine rr_aload_n dX10_where_46 rfl rfl ?_
        refine rr_getR cf_X10 (j := 12) (by decide) dX10_where_47 rfl q_766 hh (fun r21 hh => ?_)
        refine rr_iconst dX10_where_50 rfl ⟨by decide, by decide⟩ ?_
        refine rr_iconst dX10_where_51 rfl ⟨by decide, by decide⟩ ?_
        refine rr_iast dX10_where_52 rfl hh (fun h22 hh => ?_)
        refine rr_aload_n dX10_where_53 rfl rfl ?_
        refine rr_getR cf_X10 (j := 12) (by decide) dX10_where_54 rfl q_766 hh (fun r23 hh => ?_)
        refine rr_iconst dX10_where_57 rfl ⟨by decide, by decide⟩ ?_
        refine rr_iald dX10_where_58 rfl hh (fun n24 hh => ?_)
        refine rr_iconst dX10_where_59 rfl ⟨by decide, by decide⟩ ?_
        refine rr_icmp_ne (tgt := 65) dX10_where_60 rfl (by decide) (fun hc60 => ?_) (fun hc60 => ?_)
        · have hh := hh.1 hc60
          refine rr_aload_n dX10_where_65 rfl rfl ?_
          refine rr_callW (bc' := 0) (bs' := 0) (q := (some x0)) (av := []) (st := []) mf_X10_nextToken dX10_where_66 rfl q_852 q_854 qs_27 ⟨_, _, rfl⟩ rfl (by decide) (Nat.le_refl _) (Nat.le_refl _) hh (rr_kV fun h25 hh => ?_)
          refine rr_aload_n dX10_where_69 rfl rfl ?_
          refine rr_getR cf_X10 (j := 12) (by decide) dX10_where_70 rfl q_766 hh (fun r26 hh => ?_)
          refine rr_iconst dX10_where_73 rfl ⟨by decide, by decide⟩ ?_
          refine rr_iald dX10_where_74 rfl hh (fun n27 hh => ?_)
          refine rr_if_eq (tgt := 87) dX10_where_75 rfl (by decide) (fun hc75 => ?_) (fun hc75 => ?_)
          · have hh := hh.1 hc75
            refine rr_iconst dX10_where_87 rfl ⟨by decide, by decide⟩ ?_
            refine rr_goto (pc' := 92) dX10_where_88 (by decide) ?_
            exact rr_zret dX10_where_92 rfl rfl hh
          · have hh := hh.2 hc75
            refine rr_aload_n dX10_where_78 rfl rfl ?_
            refine rr_iconst dX10_where_79 rfl ⟨by decide, by decide⟩ ?_
            refine rr_iconst dX10_where_80 rfl ⟨by decide, by decide⟩ ?_
            refine rr_callW (bc' := 0) (bs' := 0) (q := (some x0)) (av := [vI 5, vI (-1)]) (st := []) mf_X10_readsSound dX10_where_81 rfl q_887 q_889 qs_33 ⟨_, _, rfl⟩ rfl (by decide) (Nat.le_refl _) (Nat.le_refl _) hh (rr_kI fun n29 h28 hh => ?_)
            refine rr_if_eq (tgt := 91) dX10_where_84 rfl (by decide) (fun hc84 => ?_) (fun hc84 => ?_)
            · have hh := hh.1 hc84
              refine rr_iconst dX10_where_91 rfl ⟨by decide, by decide⟩ ?_
              exact rr_zret dX10_where_92 rfl rfl hh
            · have hh := hh.2 hc84
              refine rr_iconst dX10_where_87 rfl ⟨by decide, by decide⟩ ?_
              refine rr_goto (pc' := 92) dX10_where_88 (by decide) ?_
              exact rr_zret dX10_where_92 rfl rfl hh
        · have hh := hh.2 hc60
          refine rr_iconst dX10_where_63 rfl ⟨by decide, by decide⟩ ?_
          exact rr_zret dX10_where_64 rfl rfl hh
    · have hh := hh.2 hc24
      refine rr_iconst dX10_where_27 rfl ⟨by decide, by decide⟩ ?_
      refine rr_goto (pc' := 45) dX10_where_28 (by decide) ?_
      refine rr_iast dX10_where_45 rfl hh (fun h33 hh => ?_)
      refine rr_aload_n dX10_where_46 rfl rfl ?_
      refine rr_getR cf_X10 (j := 12) (by decide) dX10_where_47 rfl q_766 hh (fun r34 hh => ?_)
      refine rr_iconst dX10_where_50 rfl ⟨by decide, by decide⟩ ?_
      refine rr_iconst dX10_where_51 rfl ⟨by decide, by decide⟩ ?_
      refine rr_iast dX10_where_52 rfl hh (fun h35 hh => ?_)
      refine rr_aload_n dX10_where_53 rfl rfl ?_
      refine rr_getR cf_X10 (j := 12) (by decide) dX10_where_54 rfl q_766 hh (fun r36 hh => ?_)
      refine rr_iconst dX10_where_57 rfl ⟨by decide, by decide⟩ ?_
      refine rr_iald dX10_where_58 rfl hh (fun n37 hh => ?_)
      refine rr_iconst dX10_where_59 rfl ⟨by decide, by decide⟩ ?_
      refine rr_icmp_ne (tgt := 65) dX10_where_60 rfl (by decide) (fun hc60 => ?_) (fun hc60 => ?_)
      · have hh := hh.1 hc60
        refine rr_aload_n dX10_where_65 rfl rfl ?_
        refine rr_callW (bc' := 0) (bs' := 0) (q := (some x0)) (av := []) (st := []) mf_X10_nextToken dX10_where_66 rfl q_852 q_854 qs_27 ⟨_, _, rfl⟩ rfl (by decide) (Nat.le_refl _) (Nat.le_refl _) hh (rr_kV fun h38 hh => ?_)
        refine rr_aload_n dX10_where_69 rfl rfl ?_
        refine rr_getR cf_X10 (j := 12) (by decide) dX10_where_70 rfl q_766 hh (fun r39 hh => ?_)
        refine rr_iconst dX10_where_73 rfl ⟨by decide, by decide⟩ ?_
        refine rr_iald dX10_where_74 rfl hh (fun n40 hh => ?_)
        refine rr_if_eq (tgt := 87) dX10_where_75 rfl (by decide) (fun hc75 => ?_) (fun hc75 => ?_)
        · have hh := hh.1 hc75
          refine rr_iconst dX10_where_87 rfl ⟨by decide, by decide⟩ ?_
          refine rr_goto (pc' := 92) dX10_where_88 (by decide) ?_
          exact rr_zret dX10_where_92 rfl rfl hh
        · have hh := hh.2 hc75
          refine rr_aload_n dX10_where_78 rfl rfl ?_
          refine rr_iconst dX10_where_79 rfl ⟨by decide, by decide⟩ ?_
          refine rr_iconst dX10_where_80 rfl ⟨by decide, by decide⟩ ?_
          refine rr_callW (bc' := 0) (bs' := 0) (q := (some x0)) (av := [vI 5, vI (-1)]) (st := []) mf_X10_readsSound dX10_where_81 rfl q_887 q_889 qs_33 ⟨_, _, rfl⟩ rfl (by decide) (Nat.le_refl _) (Nat.le_refl _) hh (rr_kI fun n42 h41 hh => ?_)
          refine rr_if_eq (tgt := 91) dX10_where_84 rfl (by decide) (fun hc84 => ?_) (fun hc84 => ?_)
          · have hh := hh.1 hc84
            refine rr_iconst dX10_where_91 rfl ⟨by decide, by decide⟩ ?_
            exact rr_zret dX10_where_92 rfl rfl hh
          · have hh := hh.2 hc84
            refine rr_iconst dX10_where_87 rfl ⟨by decide, by decide⟩ ?_
            refine rr_goto (pc' := 92) dX10_where_88 (by decide) ?_
            exact rr_zret dX10_where_92 rfl rfl hh
      · have hh := hh.2 hc60
        refine rr_iconst dX10_where_63 rfl ⟨by decide, by decide⟩ ?_
        exact rr_zret dX10_where_64 rfl rfl hh
  · have hh := hh.2 hc11
    refine rr_iconst dX10_where_14 rfl ⟨by decide, by decide⟩ ?_
    refine rr_goto (pc' := 45) dX10_where_15 (by decide) ?_
    refine rr_iast dX10_where_45 rfl hh (fun h46 hh => ?_)
    refine rr_aload_n dX10_where_46 rfl rfl ?_
    refine rr_getR cf_X10 (j := 12) (by decide) dX10_where_47 rfl q_766 hh (fun r47 hh => ?_)
    refine rr_iconst dX10_where_50 rfl ⟨by decide, by decide⟩ ?_
    refine rr_iconst dX10_where_51 rfl ⟨by decide, by decide⟩ ?_
    refine rr_iast dX10_where_52 rfl hh (fun h48 hh => ?_)
    refine rr_aload_n dX10_where_53 rfl rfl ?_
    refine rr_getR cf_X10 (j := 12) (by decide) dX10_where_54 rfl q_766 hh (fun r49 hh => ?_)
    refine rr_iconst dX10_where_57 rfl ⟨by decide, by decide⟩ ?_
    refine rr_iald dX10_where_58 rfl hh (fun n50 hh => ?_)
    refine rr_iconst dX10_where_59 rfl ⟨by decide, by decide⟩ ?_
    refine rr_icmp_ne (tgt := 65) dX10_where_60 rfl (by decide) (fun hc60 => ?_) (fun hc60 => ?_)
    · have hh := hh.1 hc60
      refine rr_aload_n dX10_where_65 rfl rfl ?_
      refine rr_callW (bc' := 0) (bs' := 0) (q := (some x0)) (av := []) (st := []) mf_X10_nextToken dX10_where_66 rfl q_852 q_854 qs_27 ⟨_, _, rfl⟩ rfl (by decide) (Nat.le_refl _) (Nat.le_refl _) hh (rr_kV fun h51 hh => ?_)
      refine rr_aload_n dX10_where_69 rfl rfl ?_
      refine rr_getR cf_X10 (j := 12) (by decide) dX10_where_70 rfl q_766 hh (fun r52 hh => ?_)
      refine rr_iconst dX10_where_73 rfl ⟨by decide, by decide⟩ ?_
      refine rr_iald dX10_where_74 rfl hh (fun n53 hh => ?_)
      refine rr_if_eq (tgt := 87) dX10_where_75 rfl (by decide) (fun hc75 => ?_) (fun hc75 => ?_)
      · have hh := hh.1 hc75
        refine rr_iconst dX10_where_87 rfl ⟨by decide, by decide⟩ ?_
        refine rr_goto (pc' := 92) dX10_where_88 (by decide) ?_
        exact rr_zret dX10_where_92 rfl rfl hh
      · have hh := hh.2 hc75
        refine rr_aload_n dX10_where_78 rfl rfl ?_
        refine rr_iconst dX10_where_79 rfl ⟨by decide, by decide⟩ ?_
        refine rr_iconst dX10_where_80 rfl ⟨by decide, by decide⟩ ?_
        refine rr_callW (bc' := 0) (bs' := 0) (q := (some x0)) (av := [vI 5, vI (-1)]) (st := []) mf_X10_readsSound dX10_where_81 rfl q_887 q_889 qs_33 ⟨_, _, rfl⟩ rfl (by decide) (Nat.le_refl _) (Nat.le_refl _) hh (rr_kI fun n55 h54 hh => ?_)
        refine rr_if_eq (tgt := 91) dX10_where_84 rfl (by decide) (fun hc84 => ?_) (fun hc84 => ?_)
        · have hh := hh.1 hc84
          refine rr_iconst dX10_where_91 rfl ⟨by decide, by decide⟩ ?_
          exact rr_zret dX10_where_92 rfl rfl hh
        · have hh := hh.2 hc84
          refine rr_iconst dX10_where_87 rfl ⟨by decide, by decide⟩ ?_
          refine rr_goto (pc' := 92) dX10_where_88 (by decide) ?_
          exact rr_zret dX10_where_92 rfl rfl hh
    · have hh := hh.2 hc60
      refine rr_iconst dX10_where_63 rfl ⟨by decide, by decide⟩ ?_
      exact rr_zret dX10_where_64 rfl rfl hh
theorem dX10_readsLaw_0 : decode cX10_readsLaw 0 = .ok (.aload_n 0, 1) := by decide +kernel
theorem dX10_readsLaw_1 : decode cX10_readsLaw 1 = .ok (.iconst 0, 1) := by decide +kernel
theorem dX10_readsLaw_2 : decode cX10_readsLaw 2 = .ok (.iconst 0, 1) := by decide +kernel
theorem dX10_readsLaw_3 : decode cX10_readsLaw 3 = .ok (.iconst 3, 1) := by decide +kernel
theorem dX10_readsLaw_4 : decode cX10_readsLaw 4 = .ok (.iconst (-1), 1) := by decide +kernel
theorem dX10_readsLaw_5 : decode cX10_readsLaw 5 = .ok (.invokevirtual 106, 3) := by decide +kernel
theorem dX10_readsLaw_8 : decode cX10_readsLaw 8 = .ok (.ifCond .ne 5, 3) := by decide +kernel
theorem dX10_readsLaw_11 : decode cX10_readsLaw 11 = .ok (.iconst 0, 1) := by decide +kernel
theorem dX10_readsLaw_12 : decode cX10_readsLaw 12 = .ok (.ireturn, 1) := by decide +kernel
theorem dX10_readsLaw_13 : decode cX10_readsLaw 13 = .ok (.aload_n 0, 1) := by decide +kernel
theorem dX10_readsLaw_14 : decode cX10_readsLaw 14 = .ok (.invokevirtual 92, 3) := by decide +kernel
theorem dX10_readsLaw_17 : decode cX10_readsLaw 17 = .ok (.istore_n 1, 1) := by decide +kernel
theorem dX10_readsLaw_18 : decode cX10_readsLaw 18 = .ok (.iload_n 1, 1) := by decide +kernel
theorem dX10_readsLaw_19 : decode cX10_readsLaw 19 = .ok (.i2l, 1) := by decide +kernel
theorem dX10_readsLaw_20 : decode cX10_readsLaw 20 = .ok (.lconst 1, 1) := by decide +kernel
theorem dX10_readsLaw_21 : decode cX10_readsLaw 21 = .ok (.ldc2_w 60, 3) := by decide +kernel
theorem dX10_readsLaw_24 : decode cX10_readsLaw 24 = .ok (.invokestatic 52, 3) := by decide +kernel
theorem dX10_readsLaw_27 : decode cX10_readsLaw 27 = .ok (.ifCond .eq 22, 3) := by decide +kernel
theorem dX10_readsLaw_30 : decode cX10_readsLaw 30 = .ok (.aload_n 0, 1) := by decide +kernel
theorem dX10_readsLaw_31 : decode cX10_readsLaw 31 = .ok (.getfield 20, 3) := by decide +kernel
theorem dX10_readsLaw_34 : decode cX10_readsLaw 34 = .ok (.bipush 100, 2) := by decide +kernel
theorem dX10_readsLaw_36 : decode cX10_readsLaw 36 = .ok (.aload_n 0, 1) := by decide +kernel
theorem dX10_readsLaw_37 : decode cX10_readsLaw 37 = .ok (.getfield 23, 3) := by decide +kernel
theorem dX10_readsLaw_40 : decode cX10_readsLaw 40 = .ok (.iconst 0, 1) := by decide +kernel
theorem dX10_readsLaw_41 : decode cX10_readsLaw 41 = .ok (.iaload, 1) := by decide +kernel
theorem dX10_readsLaw_42 : decode cX10_readsLaw 42 = .ok (.imul, 1) := by decide +kernel
theorem dX10_readsLaw_43 : decode cX10_readsLaw 43 = .ok (.iload_n 1, 1) := by decide +kernel
theorem dX10_readsLaw_44 : decode cX10_readsLaw 44 = .ok (.iadd, 1) := by decide +kernel
theorem dX10_readsLaw_45 : decode cX10_readsLaw 45 = .ok (.baload, 1) := by decide +kernel
theorem dX10_readsLaw_46 : decode cX10_readsLaw 46 = .ok (.ifCond .eq 5, 3) := by decide +kernel
theorem dX10_readsLaw_49 : decode cX10_readsLaw 49 = .ok (.iconst 0, 1) := by decide +kernel
theorem dX10_readsLaw_50 : decode cX10_readsLaw 50 = .ok (.ireturn, 1) := by decide +kernel
theorem dX10_readsLaw_51 : decode cX10_readsLaw 51 = .ok (.aload_n 0, 1) := by decide +kernel
theorem dX10_readsLaw_52 : decode cX10_readsLaw 52 = .ok (.iconst 1, 1) := by decide +kernel
theorem dX10_readsLaw_53 : decode cX10_readsLaw 53 = .ok (.iconst 1, 1) := by decide +kernel
theorem dX10_readsLaw_54 : decode cX10_readsLaw 54 = .ok (.bipush 99, 2) := by decide +kernel
theorem dX10_readsLaw_56 : decode cX10_readsLaw 56 = .ok (.iconst (-1), 1) := by decide +kernel
theorem dX10_readsLaw_57 : decode cX10_readsLaw 57 = .ok (.invokevirtual 106, 3) := by decide +kernel
theorem dX10_readsLaw_60 : decode cX10_readsLaw 60 = .ok (.ifCond .eq 33, 3) := by decide +kernel
theorem dX10_readsLaw_63 : decode cX10_readsLaw 63 = .ok (.aload_n 0, 1) := by decide +kernel
theorem dX10_readsLaw_64 : decode cX10_readsLaw 64 = .ok (.iconst 2, 1) := by decide +kernel
theorem dX10_readsLaw_65 : decode cX10_readsLaw 65 = .ok (.iconst (-1), 1) := by decide +kernel
theorem dX10_readsLaw_66 : decode cX10_readsLaw 66 = .ok (.invokevirtual 102, 3) := by decide +kernel
theorem dX10_readsLaw_69 : decode cX10_readsLaw 69 = .ok (.ifCond .eq 24, 3) := by decide +kernel
theorem dX10_readsLaw_72 : decode cX10_readsLaw 72 = .ok (.aload_n 0, 1) := by decide +kernel
theorem dX10_readsLaw_73 : decode cX10_readsLaw 73 = .ok (.iconst 3, 1) := by decide +kernel
theorem dX10_readsLaw_74 : decode cX10_readsLaw 74 = .ok (.aload_n 0, 1) := by decide +kernel
theorem dX10_readsLaw_75 : decode cX10_readsLaw 75 = .ok (.getfield 23, 3) := by decide +kernel
theorem dX10_readsLaw_78 : decode cX10_readsLaw 78 = .ok (.iconst 2, 1) := by decide +kernel
theorem dX10_readsLaw_79 : decode cX10_readsLaw 79 = .ok (.iaload, 1) := by decide +kernel
theorem dX10_readsLaw_80 : decode cX10_readsLaw 80 = .ok (.invokevirtual 110, 3) := by decide +kernel
theorem dX10_readsLaw_83 : decode cX10_readsLaw 83 = .ok (.ifCond .eq 10, 3) := by decide +kernel
theorem dX10_readsLaw_86 : decode cX10_readsLaw 86 = .ok (.aload_n 0, 1) := by decide +kernel
theorem dX10_readsLaw_87 : decode cX10_readsLaw 87 = .ok (.invokevirtual 113, 3) := by decide +kernel
theorem dX10_readsLaw_90 : decode cX10_readsLaw 90 = .ok (.ifCond .ne 5, 3) := by decide +kernel
theorem dX10_readsLaw_93 : decode cX10_readsLaw 93 = .ok (.iconst 0, 1) := by decide +kernel
theorem dX10_readsLaw_94 : decode cX10_readsLaw 94 = .ok (.ireturn, 1) := by decide +kernel
theorem dX10_readsLaw_95 : decode cX10_readsLaw 95 = .ok (.aload_n 0, 1) := by decide +kernel
theorem dX10_readsLaw_96 : decode cX10_readsLaw 96 = .ok (.getfield 20, 3) := by decide +kernel
theorem dX10_readsLaw_99 : decode cX10_readsLaw 99 = .ok (.bipush 100, 2) := by decide +kernel
theorem dX10_readsLaw_101 : decode cX10_readsLaw 101 = .ok (.aload_n 0, 1) := by decide +kernel
theorem dX10_readsLaw_102 : decode cX10_readsLaw 102 = .ok (.getfield 23, 3) := by decide +kernel
theorem dX10_readsLaw_105 : decode cX10_readsLaw 105 = .ok (.iconst 0, 1) := by decide +kernel
theorem dX10_readsLaw_106 : decode cX10_readsLaw 106 = .ok (.iaload, 1) := by decide +kernel
theorem dX10_readsLaw_107 : decode cX10_readsLaw 107 = .ok (.imul, 1) := by decide +kernel
theorem dX10_readsLaw_108 : decode cX10_readsLaw 108 = .ok (.aload_n 0, 1) := by decide +kernel
theorem dX10_readsLaw_109 : decode cX10_readsLaw 109 = .ok (.getfield 23, 3) := by decide +kernel
theorem dX10_readsLaw_112 : decode cX10_readsLaw 112 = .ok (.iconst 1, 1) := by decide +kernel
theorem dX10_readsLaw_113 : decode cX10_readsLaw 113 = .ok (.iaload, 1) := by decide +kernel
theorem dX10_readsLaw_114 : decode cX10_readsLaw 114 = .ok (.iadd, 1) := by decide +kernel
theorem dX10_readsLaw_115 : decode cX10_readsLaw 115 = .ok (.iconst 1, 1) := by decide +kernel
theorem dX10_readsLaw_116 : decode cX10_readsLaw 116 = .ok (.bastore, 1) := by decide +kernel
theorem dX10_readsLaw_117 : decode cX10_readsLaw 117 = .ok (.aload_n 0, 1) := by decide +kernel
theorem dX10_readsLaw_118 : decode cX10_readsLaw 118 = .ok (.dup, 1) := by decide +kernel
theorem dX10_readsLaw_119 : decode cX10_readsLaw 119 = .ok (.getfield 117, 3) := by decide +kernel
theorem dX10_readsLaw_122 : decode cX10_readsLaw 122 = .ok (.iconst 1, 1) := by decide +kernel
theorem dX10_readsLaw_123 : decode cX10_readsLaw 123 = .ok (.iadd, 1) := by decide +kernel
theorem dX10_readsLaw_124 : decode cX10_readsLaw 124 = .ok (.putfield 117, 3) := by decide +kernel
theorem dX10_readsLaw_127 : decode cX10_readsLaw 127 = .ok (.aload_n 0, 1) := by decide +kernel
theorem dX10_readsLaw_128 : decode cX10_readsLaw 128 = .ok (.getfield 120, 3) := by decide +kernel
theorem dX10_readsLaw_131 : decode cX10_readsLaw 131 = .ok (.ifCond .eq 44, 3) := by decide +kernel
theorem dX10_readsLaw_134 : decode cX10_readsLaw 134 = .ok (.aload_n 0, 1) := by decide +kernel
theorem dX10_readsLaw_135 : decode cX10_readsLaw 135 = .ok (.aload_n 0, 1) := by decide +kernel
theorem dX10_readsLaw_136 : decode cX10_readsLaw 136 = .ok (.getfield 23, 3) := by decide +kernel
theorem dX10_readsLaw_139 : decode cX10_readsLaw 139 = .ok (.iconst 0, 1) := by decide +kernel
theorem dX10_readsLaw_140 : decode cX10_readsLaw 140 = .ok (.iaload, 1) := by decide +kernel
theorem dX10_readsLaw_141 : decode cX10_readsLaw 141 = .ok (.aload_n 0, 1) := by decide +kernel
theorem dX10_readsLaw_142 : decode cX10_readsLaw 142 = .ok (.getfield 23, 3) := by decide +kernel
theorem dX10_readsLaw_145 : decode cX10_readsLaw 145 = .ok (.iconst 1, 1) := by decide +kernel
theorem dX10_readsLaw_146 : decode cX10_readsLaw 146 = .ok (.iaload, 1) := by decide +kernel
theorem dX10_readsLaw_147 : decode cX10_readsLaw 147 = .ok (.aload_n 0, 1) := by decide +kernel
theorem dX10_readsLaw_148 : decode cX10_readsLaw 148 = .ok (.getfield 23, 3) := by decide +kernel
theorem dX10_readsLaw_151 : decode cX10_readsLaw 151 = .ok (.iconst 2, 1) := by decide +kernel
theorem dX10_readsLaw_152 : decode cX10_readsLaw 152 = .ok (.iaload, 1) := by decide +kernel
theorem dX10_readsLaw_153 : decode cX10_readsLaw 153 = .ok (.aload_n 0, 1) := by decide +kernel
theorem dX10_readsLaw_154 : decode cX10_readsLaw 154 = .ok (.getfield 23, 3) := by decide +kernel
theorem dX10_readsLaw_157 : decode cX10_readsLaw 157 = .ok (.iconst 3, 1) := by decide +kernel
theorem dX10_readsLaw_158 : decode cX10_readsLaw 158 = .ok (.iaload, 1) := by decide +kernel
theorem dX10_readsLaw_159 : decode cX10_readsLaw 159 = .ok (.aload_n 0, 1) := by decide +kernel
theorem dX10_readsLaw_160 : decode cX10_readsLaw 160 = .ok (.getfield 23, 3) := by decide +kernel
theorem dX10_readsLaw_163 : decode cX10_readsLaw 163 = .ok (.iconst 4, 1) := by decide +kernel
theorem dX10_readsLaw_164 : decode cX10_readsLaw 164 = .ok (.iaload, 1) := by decide +kernel
theorem dX10_readsLaw_165 : decode cX10_readsLaw 165 = .ok (.aload_n 0, 1) := by decide +kernel
theorem dX10_readsLaw_166 : decode cX10_readsLaw 166 = .ok (.getfield 23, 3) := by decide +kernel
theorem dX10_readsLaw_169 : decode cX10_readsLaw 169 = .ok (.iconst 5, 1) := by decide +kernel
theorem dX10_readsLaw_170 : decode cX10_readsLaw 170 = .ok (.iaload, 1) := by decide +kernel
theorem dX10_readsLaw_171 : decode cX10_readsLaw 171 = .ok (.invokevirtual 124, 3) := by decide +kernel
theorem dX10_readsLaw_174 : decode cX10_readsLaw 174 = .ok (.pop, 1) := by decide +kernel
theorem dX10_readsLaw_175 : decode cX10_readsLaw 175 = .ok (.iconst 1, 1) := by decide +kernel
theorem dX10_readsLaw_176 : decode cX10_readsLaw 176 = .ok (.ireturn, 1) := by decide +kernel
set_option maxRecDepth 100000 in
theorem B_X10_readsLaw_0 {d : Nat} {h : AbH} {K : Option AbV → AbH → Prop} {x0 : Nat} (hh : wpCV h (some x0) 9 (fun b55 => Vm d m_X10_number [vR (some b55), vI 0, vI 0, vI 3, vI (-1)] h (kI (fun n2 h1 => ((n2 ≠ 0 → wpCV h1 (some x0) 9 (fun b54 => Vm d m_X10_numberHere [vR (some b54)] h1 (kI (fun n4 h3 => Vm d m_X10_in [vL n4, vL 1, vL 99] h3 (kI (fun n6 h5 => ((n6 = 0 → K (some (vI 0)) h5) ∧ (¬ (n6 = 0) → wpGR h5 (some x0) 9 7 (fun r7 => wpGR h5 (some x0) 9 12 (fun r8 => wpLI h5 r8 0 (fun n9 => in32 (100 * n9) ∧ in32 ((100 * n9) + n4) ∧ wpLZ h5 r7 ((100 * n9) + n4) (fun n12 => ((n12 = 0 → wpCV h5 (some x0) 9 (fun b53 => Vm d m_X10_number [vR (some b53), vI 1, vI 1, vI 99, vI (-1)] h5 (kI (fun n14 h13 => ((n14 = 0 → K (some (vI 0)) h13) ∧ (¬ (n14 = 0) → wpCV h13 (some x0) 9 (fun b52 => Vm d m_X10_readsSound [vR (some b52), vI 2, vI (-1)] h13 (kI (fun n16 h15 => ((n16 = 0 → K (some (vI 0)) h15) ∧ (¬ (n16 = 0) → wpGR h15 (some x0) 9 12 (fun r17 => wpLI h15 r17 2 (fun n18 => wpCV h15 (some x0) 9 (fun b51 => Vm d m_X10_lostOrSound [vR (some b51), vI 3, vI n18] h15 (kI (fun n20 h19 => ((n20 = 0 → K (some (vI 0)) h19) ∧ (¬ (n20 = 0) → wpCV h19 (some x0) 9 (fun b50 => Vm d m_X10_where [vR (some b50)] h19 (kI (fun n22 h21 => ((n22 ≠ 0 → wpGR h21 (some x0) 9 7 (fun r23 => wpGR h21 (some x0) 9 12 (fun r24 => wpLI h21 r24 0 (fun n25 => in32 (100 * n25) ∧ wpGR h21 (some x0) 9 12 (fun r27 => wpLI h21 r27 1 (fun n28 => in32 ((100 * n25) + n28) ∧ wpSZ h21 r23 ((100 * n25) + n28) 1 (fun h30 => wpGI h30 (some x0) 9 8 (fun n31 => in32 (n31 + 1) ∧ wpP h30 (some x0) 9 8 (vI (n31 + 1)) (fun h33 => wpGI h33 (some x0) 9 11 (fun n34 => ((n34 = 0 → K (some (vI 1)) h33) ∧ (¬ (n34 = 0) → wpGR h33 (some x0) 9 12 (fun r35 => wpLI h33 r35 0 (fun n36 => wpGR h33 (some x0) 9 12 (fun r37 => wpLI h33 r37 1 (fun n38 => wpGR h33 (some x0) 9 12 (fun r39 => wpLI h33 r39 2 (fun n40 => wpGR h33 (some x0) 9 12 (fun r41 => wpLI h33 r41 3 (fun n42 => wpGR h33 (some x0) 9 12 (fun r43 => wpLI h33 r43 4 (fun n44 => wpGR h33 (some x0) 9 12 (fun r45 => wpLI h33 r45 5 (fun n46 => wpCV h33 (some x0) 9 (fun b49 => Vm d m_X10_puts [vR (some b49), vI n36, vI n38, vI n40, vI n42, vI n44, vI n46] h33 (kI (fun n48 h47 => K (some (vI 1)) h47))))))))))))))))))))))))))) ∧ (¬ (n22 ≠ 0) → K (some (vI 0)) h21))))))))))))))))))))))) ∧ (¬ (n12 = 0) → K (some (vI 0)) h5)))))))))))))) ∧ (¬ (n2 ≠ 0) → K (some (vI 0)) h1)))))) : Vx (d + 1) m_X10_readsLaw 0 0 0 [some (vR (some x0))] [] h K := by
  refine Vx.pad 1 [some (vR (some x0)), none] rfl ?_
  refine rr_aload_n dX10_readsLaw_0 rfl rfl ?_
  refine rr_iconst dX10_readsLaw_1 rfl ⟨by decide, by decide⟩ ?_
  refine rr_iconst dX10_readsLaw_2 rfl ⟨by decide, by decide⟩ ?_
  refine rr_iconst dX10_readsLaw_3 rfl ⟨by decide, by decide⟩ ?_
  refine rr_iconst dX10_readsLaw_4 rfl ⟨by decide, by decide⟩ ?_
  refine rr_callW (bc' := 0) (bs' := 0) (q := (some x0)) (av := [vI 0, vI 0, vI 3, vI (-1)]) (st := []) mf_X10_number dX10_readsLaw_5 rfl q_878 q_880 qs_31 ⟨_, _, rfl⟩ rfl (by decide) (Nat.le_refl _) (Nat.le_refl _) hh (rr_kI fun n2 h1 hh => ?_)
  refine rr_if_ne (tgt := 13) dX10_readsLaw_8 rfl (by decide) (fun hc8 => ?_) (fun hc8 => ?_)
  · have hh := hh.1 hc8
    refine rr_aload_n dX10_readsLaw_13 rfl rfl ?_
    refine rr_callW (bc' := 0) (bs' := 0) (q := (some x0)) (av := []) (st := []) mf_X10_numberHere dX10_readsLaw_14 rfl q_882 q_884 qs_32 ⟨_, _, rfl⟩ rfl (by decide) (Nat.le_refl _) (Nat.le_refl _) hh (rr_kI fun n4 h3 hh => ?_)
    refine rr_istore_n (ls' := [some (vR (some x0)), some (vI n4)]) dX10_readsLaw_17 rfl (by decide) (fun _ z => by cases z) rfl ?_
    refine rr_iload_n dX10_readsLaw_18 rfl rfl ?_
    refine rr_i2l dX10_readsLaw_19 rfl ?_
    refine rr_lconst (n := 1) dX10_readsLaw_20 rfl ⟨by decide, by decide⟩ rfl ?_
    refine rr_ldc2 (n := 99) dX10_readsLaw_21 rfl q_886 (by decide) ⟨by decide, by decide⟩ ?_
    refine rr_callS (bc' := 0) (bs' := 0) (av := [vL n4, vL 1, vL 99]) (st := []) mf_X10_in dX10_readsLaw_24 rfl q_829 q_830 rfl (by decide) (Nat.le_refl _) (Nat.le_refl _) hh (rr_kI fun n6 h5 hh => ?_)
    refine rr_if_eq (tgt := 49) dX10_readsLaw_27 rfl (by decide) (fun hc27 => ?_) (fun hc27 => ?_)
    · have hh := hh.1 hc27
      refine rr_iconst dX10_readsLaw_49 rfl ⟨by decide, by decide⟩ ?_
      exact rr_zret dX10_readsLaw_50 rfl rfl hh
    · have hh := hh.2 hc27
      refine rr_aload_n dX10_readsLaw_30 rfl rfl ?_
      refine rr_getR cf_X10 (j := 7) (by decide) dX10_readsLaw_31 rfl q_761 hh (fun r7 hh => ?_)
      refine rr_bipush dX10_readsLaw_34 rfl ⟨by decide, by decide⟩ rfl ?_
      refine rr_aload_n dX10_readsLaw_36 rfl rfl ?_
      refine rr_getR cf_X10 (j := 12) (by decide) dX10_readsLaw_37 rfl q_766 hh (fun r8 hh => ?_)
      refine rr_iconst dX10_readsLaw_40 rfl ⟨by decide, by decide⟩ ?_
      refine rr_iald dX10_readsLaw_41 rfl hh (fun n9 hh => ?_)
      obtain ⟨hz10, hh⟩ := hh
      refine rr_imul dX10_readsLaw_42 rfl hz10 ?_
      refine rr_iload_n dX10_readsLaw_43 rfl rfl ?_
      obtain ⟨hz11, hh⟩ := hh
      refine rr_iadd dX10_readsLaw_44 rfl hz11 ?_
      refine rr_zald dX10_readsLaw_45 rfl hh (fun n12 hh => ?_)
      refine rr_if_eq (tgt := 51) dX10_readsLaw_46 rfl (by decide) (fun hc46 => ?_) (fun hc46 => ?_)
      · have hh := hh.1 hc46
        refine rr_aload_n dX10_readsLaw_51 rfl rfl ?_
        refine rr_iconst dX10_readsLaw_52 rfl ⟨by decide, by decide⟩ ?_
        refine rr_iconst dX10_readsLaw_53 rfl ⟨by decide, by decide⟩ ?_
        refine rr_bipush dX10_readsLaw_54 rfl ⟨by decide, by decide⟩ rfl ?_
        refine rr_iconst dX10_readsLaw_56 rfl ⟨by decide, by decide⟩ ?_
        refine rr_callW (bc' := 0) (bs' := 0) (q := (some x0)) (av := [vI 1, vI 1, vI 99, vI (-1)]) (st := []) mf_X10_number dX10_readsLaw_57 rfl q_878 q_880 qs_31 ⟨_, _, rfl⟩ rfl (by decide) (Nat.le_refl _) (Nat.le_refl _) hh (rr_kI fun n14 h13 hh => ?_)
        refine rr_if_eq (tgt := 93) dX10_readsLaw_60 rfl (by decide) (fun hc60 => ?_) (fun hc60 => ?_)
        · have hh := hh.1 hc60
          refine rr_iconst dX10_readsLaw_93 rfl ⟨by decide, by decide⟩ ?_
          exact rr_zret dX10_readsLaw_94 rfl rfl hh
        · have hh := hh.2 hc60
          refine rr_aload_n dX10_readsLaw_63 rfl rfl ?_
          refine rr_iconst dX10_readsLaw_64 rfl ⟨by decide, by decide⟩ ?_
          refine rr_iconst dX10_readsLaw_65 rfl ⟨by decide, by decide⟩ ?_
          refine rr_callW (bc' := 0) (bs' := 0) (q := (some x0)) (av := [vI 2, vI (-1)]) (st := []) mf_X10_readsSound dX10_readsLaw_66 rfl q_887 q_889 qs_33 ⟨_, _, rfl⟩ rfl (by decide) (Nat.le_refl _) (Nat.le_refl _) hh (rr_kI fun n16 h15 hh => ?_)
          refine rr_if_eq (tgt := 93) dX10_readsLaw_69 rfl (by decide) (fun hc69 => ?_) (fun hc69 => ?_)
          · have hh := hh.1 hc69
            refine rr_iconst dX10_readsLaw_93 rfl ⟨by decide, by decide⟩ ?_
            exact rr_zret dX10_readsLaw_94 rfl rfl hh
          · have hh := hh.2 hc69
            refine rr_aload_n dX10_readsLaw_72 rfl rfl ?_
            refine rr_iconst dX10_readsLaw_73 rfl ⟨by decide, by decide⟩ ?_
            refine rr_aload_n dX10_readsLaw_74 rfl rfl ?_
            refine rr_getR cf_X10 (j := 12) (by decide) dX10_readsLaw_75 rfl q_766 hh (fun r17 hh => ?_)
            refine rr_iconst dX10_readsLaw_78 rfl ⟨by decide, by decide⟩ ?_
            refine rr_iald dX10_readsLaw_79 rfl hh (fun n18 hh => ?_)
            refine rr_callW (bc' := 0) (bs' := 0) (q := (some x0)) (av := [vI 3, vI n18]) (st := []) mf_X10_lostOrSound dX10_readsLaw_80 rfl q_891 q_893 qs_34 ⟨_, _, rfl⟩ rfl (by decide) (Nat.le_refl _) (Nat.le_refl _) hh (rr_kI fun n20 h19 hh => ?_)
            refine rr_if_eq (tgt := 93) dX10_readsLaw_83 rfl (by decide) (fun hc83 => ?_) (fun hc83 => ?_)
            · have hh := hh.1 hc83
              refine rr_iconst dX10_readsLaw_93 rfl ⟨by decide, by decide⟩ ?_
              exact rr_zret dX10_readsLaw_94 rfl rfl hh
            · have hh := hh.2 hc83
              refine rr_aload_n dX10_readsLaw_86 rfl rfl ?_
              refine rr_callW (bc' := 0) (bs' := 0) (q := (some x0)) (av := []) (st := []) mf_X10_where dX10_readsLaw_87 rfl q_899 q_901 qs_36 ⟨_, _, rfl⟩ rfl (by decide) (Nat.le_refl _) (Nat.le_refl _) hh (rr_kI fun n22 h21 hh => ?_)
              refine rr_if_ne (tgt := 95) dX10_readsLaw_90 rfl (by decide) (fun hc90 => ?_) (fun hc90 => ?_)
              · have hh := hh.1 hc90
                refine rr_aload_n dX10_readsLaw_95 rfl rfl ?_
                refine rr_getR cf_X10 (j := 7) (by decide) dX10_readsLaw_96 rfl q_761 hh (fun r23 hh => ?_)
                refine rr_bipush dX10_readsLaw_99 rfl ⟨by decide, by decide⟩ rfl ?_
                refine rr_aload_n dX10_readsLaw_101 rfl rfl ?_
                refine rr_getR cf_X10 (j := 12) (by decide) dX10_readsLaw_102 rfl q_766 hh (fun r24 hh => ?_)
                refine rr_iconst dX10_readsLaw_105 rfl ⟨by decide, by decide⟩ ?_
                refine rr_iald dX10_readsLaw_106 rfl hh (fun n25 hh => ?_)
                obtain ⟨hz26, hh⟩ := hh
                refine rr_imul dX10_readsLaw_107 rfl hz26 ?_
                refine rr_aload_n dX10_readsLaw_108 rfl rfl ?_
                refine rr_getR cf_X10 (j := 12) (by decide) dX10_readsLaw_109 rfl q_766 hh (fun r27 hh => ?_)
                refine rr_iconst dX10_readsLaw_112 rfl ⟨by decide, by decide⟩ ?_
                refine rr_iald dX10_readsLaw_113 rfl hh (fun n28 hh => ?_)
                obtain ⟨hz29, hh⟩ := hh
                refine rr_iadd dX10_readsLaw_114 rfl hz29 ?_
                refine rr_iconst dX10_readsLaw_115 rfl ⟨by decide, by decide⟩ ?_
                refine rr_zast dX10_readsLaw_116 rfl hh (fun h30 hh => ?_)
                refine rr_aload_n dX10_readsLaw_117 rfl rfl ?_
                refine rr_dup dX10_readsLaw_118 rfl rfl ?_
                refine rr_getI cf_X10 (j := 8) (by decide) dX10_readsLaw_119 rfl q_762 hh (fun n31 hh => ?_)
                refine rr_iconst dX10_readsLaw_122 rfl ⟨by decide, by decide⟩ ?_
                obtain ⟨hz32, hh⟩ := hh
                refine rr_iadd dX10_readsLaw_123 rfl hz32 ?_
                refine rr_put cf_X10 (j := 8) (by decide) dX10_readsLaw_124 rfl q_762 rfl (fty := .int) (by decide +kernel) rfl rfl hh (fun h33 hh => ?_)
                refine rr_aload_n dX10_readsLaw_127 rfl rfl ?_
                refine rr_getI cf_X10 (j := 11) (by decide) dX10_readsLaw_128 rfl q_765 hh (fun n34 hh => ?_)
                refine rr_if_eq (tgt := 175) dX10_readsLaw_131 rfl (by decide) (fun hc131 => ?_) (fun hc131 => ?_)
                · have hh := hh.1 hc131
                  refine rr_iconst dX10_readsLaw_175 rfl ⟨by decide, by decide⟩ ?_
                  exact rr_zret dX10_readsLaw_176 rfl rfl hh
                · have hh := hh.2 hc131
                  refine rr_aload_n dX10_readsLaw_134 rfl rfl ?_
                  refine rr_aload_n dX10_readsLaw_135 rfl rfl ?_
                  refine rr_getR cf_X10 (j := 12) (by decide) dX10_readsLaw_136 rfl q_766 hh (fun r35 hh => ?_)
                  refine rr_iconst dX10_readsLaw_139 rfl ⟨by decide, by decide⟩ ?_
                  refine rr_iald dX10_readsLaw_140 rfl hh (fun n36 hh => ?_)
                  refine rr_aload_n dX10_readsLaw_141 rfl rfl ?_
                  refine rr_getR cf_X10 (j := 12) (by decide) dX10_readsLaw_142 rfl q_766 hh (fun r37 hh => ?_)
                  refine rr_iconst dX10_readsLaw_145 rfl ⟨by decide, by decide⟩ ?_
                  refine rr_iald dX10_readsLaw_146 rfl hh (fun n38 hh => ?_)
                  refine rr_aload_n dX10_readsLaw_147 rfl rfl ?_
                  refine rr_getR cf_X10 (j := 12) (by decide) dX10_readsLaw_148 rfl q_766 hh (fun r39 hh => ?_)
                  refine rr_iconst dX10_readsLaw_151 rfl ⟨by decide, by decide⟩ ?_
                  refine rr_iald dX10_readsLaw_152 rfl hh (fun n40 hh => ?_)
                  refine rr_aload_n dX10_readsLaw_153 rfl rfl ?_
                  refine rr_getR cf_X10 (j := 12) (by decide) dX10_readsLaw_154 rfl q_766 hh (fun r41 hh => ?_)
                  refine rr_iconst dX10_readsLaw_157 rfl ⟨by decide, by decide⟩ ?_
                  refine rr_iald dX10_readsLaw_158 rfl hh (fun n42 hh => ?_)
                  refine rr_aload_n dX10_readsLaw_159 rfl rfl ?_
                  refine rr_getR cf_X10 (j := 12) (by decide) dX10_readsLaw_160 rfl q_766 hh (fun r43 hh => ?_)
                  refine rr_iconst dX10_readsLaw_163 rfl ⟨by decide, by decide⟩ ?_
                  refine rr_iald dX10_readsLaw_164 rfl hh (fun n44 hh => ?_)
                  refine rr_aload_n dX10_readsLaw_165 rfl rfl ?_
                  refine rr_getR cf_X10 (j := 12) (by decide) dX10_readsLaw_166 rfl q_766 hh (fun r45 hh => ?_)
                  refine rr_iconst dX10_readsLaw_169 rfl ⟨by decide, by decide⟩ ?_
                  refine rr_iald dX10_readsLaw_170 rfl hh (fun n46 hh => ?_)
                  refine rr_callW (bc' := 0) (bs' := 0) (q := (some x0)) (av := [vI n36, vI n38, vI n40, vI n42, vI n44, vI n46]) (st := []) mf_X10_puts dX10_readsLaw_171 rfl q_903 q_905 qs_37 ⟨_, _, rfl⟩ rfl (by decide) (Nat.le_refl _) (Nat.le_refl _) hh (rr_kI fun n48 h47 hh => ?_)
                  refine rr_pop dX10_readsLaw_174 rfl rfl ?_
                  refine rr_iconst dX10_readsLaw_175 rfl ⟨by decide, by decide⟩ ?_
                  exact rr_zret dX10_readsLaw_176 rfl rfl hh
              · have hh := hh.2 hc90
                refine rr_iconst dX10_readsLaw_93 rfl ⟨by decide, by decide⟩ ?_
                exact rr_zret dX10_readsLaw_94 rfl rfl hh
      · have hh := hh.2 hc46
        refine rr_iconst dX10_readsLaw_49 rfl ⟨by decide, by decide⟩ ?_
        exact rr_zret dX10_readsLaw_50 rfl rfl hh
  · have hh := hh.2 hc8
    refine rr_iconst dX10_readsLaw_11 rfl ⟨by decide, by decide⟩ ?_
    exact rr_zret dX10_readsLaw_12 rfl rfl hh
theorem dX10_readsMeet_0 : decode cX10_readsMeet 0 = .ok (.aload_n 0, 1) := by decide +kernel
theorem dX10_readsMeet_1 : decode cX10_readsMeet 1 = .ok (.iconst 0, 1) := by decide +kernel
theorem dX10_readsMeet_2 : decode cX10_readsMeet 2 = .ok (.iconst 0, 1) := by decide +kernel
theorem dX10_readsMeet_3 : decode cX10_readsMeet 3 = .ok (.iconst 3, 1) := by decide +kernel
theorem dX10_readsMeet_4 : decode cX10_readsMeet 4 = .ok (.iconst (-1), 1) := by decide +kernel
theorem dX10_readsMeet_5 : decode cX10_readsMeet 5 = .ok (.invokevirtual 106, 3) := by decide +kernel
theorem dX10_readsMeet_8 : decode cX10_readsMeet 8 = .ok (.ifCond .eq 48, 3) := by decide +kernel
theorem dX10_readsMeet_11 : decode cX10_readsMeet 11 = .ok (.aload_n 0, 1) := by decide +kernel
theorem dX10_readsMeet_12 : decode cX10_readsMeet 12 = .ok (.iconst 1, 1) := by decide +kernel
theorem dX10_readsMeet_13 : decode cX10_readsMeet 13 = .ok (.iconst 0, 1) := by decide +kernel
theorem dX10_readsMeet_14 : decode cX10_readsMeet 14 = .ok (.iconst 3, 1) := by decide +kernel
theorem dX10_readsMeet_15 : decode cX10_readsMeet 15 = .ok (.aload_n 0, 1) := by decide +kernel
theorem dX10_readsMeet_16 : decode cX10_readsMeet 16 = .ok (.getfield 23, 3) := by decide +kernel
theorem dX10_readsMeet_19 : decode cX10_readsMeet 19 = .ok (.iconst 0, 1) := by decide +kernel
theorem dX10_readsMeet_20 : decode cX10_readsMeet 20 = .ok (.iaload, 1) := by decide +kernel
theorem dX10_readsMeet_21 : decode cX10_readsMeet 21 = .ok (.invokevirtual 106, 3) := by decide +kernel
theorem dX10_readsMeet_24 : decode cX10_readsMeet 24 = .ok (.ifCond .eq 32, 3) := by decide +kernel
theorem dX10_readsMeet_27 : decode cX10_readsMeet 27 = .ok (.aload_n 0, 1) := by decide +kernel
theorem dX10_readsMeet_28 : decode cX10_readsMeet 28 = .ok (.iconst 2, 1) := by decide +kernel
theorem dX10_readsMeet_29 : decode cX10_readsMeet 29 = .ok (.iconst 0, 1) := by decide +kernel
theorem dX10_readsMeet_30 : decode cX10_readsMeet 30 = .ok (.bipush 99, 2) := by decide +kernel
theorem dX10_readsMeet_32 : decode cX10_readsMeet 32 = .ok (.iconst (-1), 1) := by decide +kernel
theorem dX10_readsMeet_33 : decode cX10_readsMeet 33 = .ok (.invokevirtual 106, 3) := by decide +kernel
theorem dX10_readsMeet_36 : decode cX10_readsMeet 36 = .ok (.ifCond .eq 20, 3) := by decide +kernel
theorem dX10_readsMeet_39 : decode cX10_readsMeet 39 = .ok (.aload_n 0, 1) := by decide +kernel
theorem dX10_readsMeet_40 : decode cX10_readsMeet 40 = .ok (.iconst 3, 1) := by decide +kernel
theorem dX10_readsMeet_41 : decode cX10_readsMeet 41 = .ok (.aload_n 0, 1) := by decide +kernel
theorem dX10_readsMeet_42 : decode cX10_readsMeet 42 = .ok (.getfield 23, 3) := by decide +kernel
theorem dX10_readsMeet_45 : decode cX10_readsMeet 45 = .ok (.iconst 2, 1) := by decide +kernel
theorem dX10_readsMeet_46 : decode cX10_readsMeet 46 = .ok (.iaload, 1) := by decide +kernel
theorem dX10_readsMeet_47 : decode cX10_readsMeet 47 = .ok (.bipush 99, 2) := by decide +kernel
theorem dX10_readsMeet_49 : decode cX10_readsMeet 49 = .ok (.iconst (-1), 1) := by decide +kernel
theorem dX10_readsMeet_50 : decode cX10_readsMeet 50 = .ok (.invokevirtual 106, 3) := by decide +kernel
theorem dX10_readsMeet_53 : decode cX10_readsMeet 53 = .ok (.ifCond .ne 5, 3) := by decide +kernel
theorem dX10_readsMeet_56 : decode cX10_readsMeet 56 = .ok (.iconst 0, 1) := by decide +kernel
theorem dX10_readsMeet_57 : decode cX10_readsMeet 57 = .ok (.ireturn, 1) := by decide +kernel
theorem dX10_readsMeet_58 : decode cX10_readsMeet 58 = .ok (.aload_n 0, 1) := by decide +kernel
theorem dX10_readsMeet_59 : decode cX10_readsMeet 59 = .ok (.getfield 120, 3) := by decide +kernel
theorem dX10_readsMeet_62 : decode cX10_readsMeet 62 = .ok (.ifCond .eq 59, 3) := by decide +kernel
theorem dX10_readsMeet_65 : decode cX10_readsMeet 65 = .ok (.aload_n 0, 1) := by decide +kernel
theorem dX10_readsMeet_66 : decode cX10_readsMeet 66 = .ok (.getfield 7, 3) := by decide +kernel
theorem dX10_readsMeet_69 : decode cX10_readsMeet 69 = .ok (.aload_n 0, 1) := by decide +kernel
theorem dX10_readsMeet_70 : decode cX10_readsMeet 70 = .ok (.getfield 23, 3) := by decide +kernel
theorem dX10_readsMeet_73 : decode cX10_readsMeet 73 = .ok (.iconst 0, 1) := by decide +kernel
theorem dX10_readsMeet_74 : decode cX10_readsMeet 74 = .ok (.iaload, 1) := by decide +kernel
theorem dX10_readsMeet_75 : decode cX10_readsMeet 75 = .ok (.aload_n 0, 1) := by decide +kernel
theorem dX10_readsMeet_76 : decode cX10_readsMeet 76 = .ok (.getfield 23, 3) := by decide +kernel
theorem dX10_readsMeet_79 : decode cX10_readsMeet 79 = .ok (.iconst 1, 1) := by decide +kernel
theorem dX10_readsMeet_80 : decode cX10_readsMeet 80 = .ok (.iaload, 1) := by decide +kernel
theorem dX10_readsMeet_81 : decode cX10_readsMeet 81 = .ok (.invokestatic 62, 3) := by decide +kernel
theorem dX10_readsMeet_84 : decode cX10_readsMeet 84 = .ok (.aload_n 0, 1) := by decide +kernel
theorem dX10_readsMeet_85 : decode cX10_readsMeet 85 = .ok (.getfield 23, 3) := by decide +kernel
theorem dX10_readsMeet_88 : decode cX10_readsMeet 88 = .ok (.iconst 2, 1) := by decide +kernel
theorem dX10_readsMeet_89 : decode cX10_readsMeet 89 = .ok (.iaload, 1) := by decide +kernel
theorem dX10_readsMeet_90 : decode cX10_readsMeet 90 = .ok (.iconst 1, 1) := by decide +kernel
theorem dX10_readsMeet_91 : decode cX10_readsMeet 91 = .ok (.iadd, 1) := by decide +kernel
theorem dX10_readsMeet_92 : decode cX10_readsMeet 92 = .ok (.iastore, 1) := by decide +kernel
theorem dX10_readsMeet_93 : decode cX10_readsMeet 93 = .ok (.aload_n 0, 1) := by decide +kernel
theorem dX10_readsMeet_94 : decode cX10_readsMeet 94 = .ok (.getfield 7, 3) := by decide +kernel
theorem dX10_readsMeet_97 : decode cX10_readsMeet 97 = .ok (.aload_n 0, 1) := by decide +kernel
theorem dX10_readsMeet_98 : decode cX10_readsMeet 98 = .ok (.getfield 23, 3) := by decide +kernel
theorem dX10_readsMeet_101 : decode cX10_readsMeet 101 = .ok (.iconst 0, 1) := by decide +kernel
theorem dX10_readsMeet_102 : decode cX10_readsMeet 102 = .ok (.iaload, 1) := by decide +kernel
theorem dX10_readsMeet_103 : decode cX10_readsMeet 103 = .ok (.aload_n 0, 1) := by decide +kernel
theorem dX10_readsMeet_104 : decode cX10_readsMeet 104 = .ok (.getfield 23, 3) := by decide +kernel
theorem dX10_readsMeet_107 : decode cX10_readsMeet 107 = .ok (.iconst 1, 1) := by decide +kernel
theorem dX10_readsMeet_108 : decode cX10_readsMeet 108 = .ok (.iaload, 1) := by decide +kernel
theorem dX10_readsMeet_109 : decode cX10_readsMeet 109 = .ok (.invokestatic 62, 3) := by decide +kernel
theorem dX10_readsMeet_112 : decode cX10_readsMeet 112 = .ok (.iconst 1, 1) := by decide +kernel
theorem dX10_readsMeet_113 : decode cX10_readsMeet 113 = .ok (.iadd, 1) := by decide +kernel
theorem dX10_readsMeet_114 : decode cX10_readsMeet 114 = .ok (.aload_n 0, 1) := by decide +kernel
theorem dX10_readsMeet_115 : decode cX10_readsMeet 115 = .ok (.getfield 23, 3) := by decide +kernel
theorem dX10_readsMeet_118 : decode cX10_readsMeet 118 = .ok (.iconst 3, 1) := by decide +kernel
theorem dX10_readsMeet_119 : decode cX10_readsMeet 119 = .ok (.iaload, 1) := by decide +kernel
theorem dX10_readsMeet_120 : decode cX10_readsMeet 120 = .ok (.iastore, 1) := by decide +kernel
theorem dX10_readsMeet_121 : decode cX10_readsMeet 121 = .ok (.iconst 1, 1) := by decide +kernel
theorem dX10_readsMeet_122 : decode cX10_readsMeet 122 = .ok (.ireturn, 1) := by decide +kernel
set_option maxRecDepth 100000 in
theorem B_X10_readsMeet_0 {d : Nat} {h : AbH} {K : Option AbV → AbH → Prop} {x0 : Nat} (hh : wpCV h (some x0) 9 (fun b39 => Vm d m_X10_number [vR (some b39), vI 0, vI 0, vI 3, vI (-1)] h (kI (fun n2 h1 => ((n2 = 0 → K (some (vI 0)) h1) ∧ (¬ (n2 = 0) → wpGR h1 (some x0) 9 12 (fun r3 => wpLI h1 r3 0 (fun n4 => wpCV h1 (some x0) 9 (fun b38 => Vm d m_X10_number [vR (some b38), vI 1, vI 0, vI 3, vI n4] h1 (kI (fun n6 h5 => ((n6 = 0 → K (some (vI 0)) h5) ∧ (¬ (n6 = 0) → wpCV h5 (some x0) 9 (fun b37 => Vm d m_X10_number [vR (some b37), vI 2, vI 0, vI 99, vI (-1)] h5 (kI (fun n8 h7 => ((n8 = 0 → K (some (vI 0)) h7) ∧ (¬ (n8 = 0) → wpGR h7 (some x0) 9 12 (fun r9 => wpLI h7 r9 2 (fun n10 => wpCV h7 (some x0) 9 (fun b36 => Vm d m_X10_number [vR (some b36), vI 3, vI n10, vI 99, vI (-1)] h7 (kI (fun n12 h11 => ((n12 ≠ 0 → wpGI h11 (some x0) 9 11 (fun n13 => ((n13 = 0 → K (some (vI 1)) h11) ∧ (¬ (n13 = 0) → wpGR h11 (some x0) 9 0 (fun r14 => wpGR h11 (some x0) 9 12 (fun r15 => wpLI h11 r15 0 (fun n16 => wpGR h11 (some x0) 9 12 (fun r17 => wpLI h11 r17 1 (fun n18 => Vm d m_X10_meetAt [vI n16, vI n18] h11 (kI (fun n20 h19 => wpGR h19 (some x0) 9 12 (fun r21 => wpLI h19 r21 2 (fun n22 => in32 (n22 + 1) ∧ wpSI h19 r14 n20 (n22 + 1) (fun h24 => wpGR h24 (some x0) 9 0 (fun r25 => wpGR h24 (some x0) 9 12 (fun r26 => wpLI h24 r26 0 (fun n27 => wpGR h24 (some x0) 9 12 (fun r28 => wpLI h24 r28 1 (fun n29 => Vm d m_X10_meetAt [vI n27, vI n29] h24 (kI (fun n31 h30 => in32 (n31 + 1) ∧ wpGR h30 (some x0) 9 12 (fun r33 => wpLI h30 r33 3 (fun n34 => wpSI h30 r25 (n31 + 1) n34 (fun h35 => K (some (vI 1)) h35)))))))))))))))))))))))) ∧ (¬ (n12 ≠ 0) → K (some (vI 0)) h11))))))))))))))))))))))))) : Vx (d + 1) m_X10_readsMeet 0 0 0 [some (vR (some x0))] [] h K := by
  refine rr_aload_n dX10_readsMeet_0 rfl rfl ?_
  refine rr_iconst dX10_readsMeet_1 rfl ⟨by decide, by decide⟩ ?_
  refine rr_iconst dX10_readsMeet_2 rfl ⟨by decide, by decide⟩ ?_
  refine rr_iconst dX10_readsMeet_3 rfl ⟨by decide, by decide⟩ ?_
  refine rr_iconst dX10_readsMeet_4 rfl ⟨by decide, by decide⟩ ?_
  refine rr_callW (bc' := 0) (bs' := 0) (q := (some x0)) (av := [vI 0, vI 0, vI 3, vI (-1)]) (st := []) mf_X10_number dX10_readsMeet_5 rfl q_878 q_880 qs_31 ⟨_, _, rfl⟩ rfl (by decide) (Nat.le_refl _) (Nat.le_refl _) hh (rr_kI fun n2 h1 hh => ?_)
  refine rr_if_eq (tgt := 56) dX10_readsMeet_8 rfl (by decide) (fun hc8 => ?_) (fun hc8 => ?_)
  · have hh := hh.1 hc8
    refine rr_iconst dX10_readsMeet_56 rfl ⟨by decide, by decide⟩ ?_
    exact rr_zret dX10_readsMeet_57 rfl rfl hh
  · have hh := hh.2 hc8
    refine rr_aload_n dX10_readsMeet_11 rfl rfl ?_
    refine rr_iconst dX10_readsMeet_12 rfl ⟨by decide, by decide⟩ ?_
    refine rr_iconst dX10_readsMeet_13 rfl ⟨by decide, by decide⟩ ?_
    refine rr_iconst dX10_readsMeet_14 rfl ⟨by decide, by decide⟩ ?_
    refine rr_aload_n dX10_readsMeet_15 rfl rfl ?_
    refine rr_getR cf_X10 (j := 12) (by decide) dX10_readsMeet_16 rfl q_766 hh (fun r3 hh => ?_)
    refine rr_iconst dX10_readsMeet_19 rfl ⟨by decide, by decide⟩ ?_
    refine rr_iald dX10_readsMeet_20 rfl hh (fun n4 hh => ?_)
    refine rr_callW (bc' := 0) (bs' := 0) (q := (some x0)) (av := [vI 1, vI 0, vI 3, vI n4]) (st := []) mf_X10_number dX10_readsMeet_21 rfl q_878 q_880 qs_31 ⟨_, _, rfl⟩ rfl (by decide) (Nat.le_refl _) (Nat.le_refl _) hh (rr_kI fun n6 h5 hh => ?_)
    refine rr_if_eq (tgt := 56) dX10_readsMeet_24 rfl (by decide) (fun hc24 => ?_) (fun hc24 => ?_)
    · have hh := hh.1 hc24
      refine rr_iconst dX10_readsMeet_56 rfl ⟨by decide, by decide⟩ ?_
      exact rr_zret dX10_readsMeet_57 rfl rfl hh
    · have hh := hh.2 hc24
      refine rr_aload_n dX10_readsMeet_27 rfl rfl ?_
      refine rr_iconst dX10_readsMeet_28 rfl ⟨by decide, by decide⟩ ?_
      refine rr_iconst dX10_readsMeet_29 rfl ⟨by decide, by decide⟩ ?_
      refine rr_bipush dX10_readsMeet_30 rfl ⟨by decide, by decide⟩ rfl ?_
      refine rr_iconst dX10_readsMeet_32 rfl ⟨by decide, by decide⟩ ?_
      refine rr_callW (bc' := 0) (bs' := 0) (q := (some x0)) (av := [vI 2, vI 0, vI 99, vI (-1)]) (st := []) mf_X10_number dX10_readsMeet_33 rfl q_878 q_880 qs_31 ⟨_, _, rfl⟩ rfl (by decide) (Nat.le_refl _) (Nat.le_refl _) hh (rr_kI fun n8 h7 hh => ?_)
      refine rr_if_eq (tgt := 56) dX10_readsMeet_36 rfl (by decide) (fun hc36 => ?_) (fun hc36 => ?_)
      · have hh := hh.1 hc36
        refine rr_iconst dX10_readsMeet_56 rfl ⟨by decide, by decide⟩ ?_
        exact rr_zret dX10_readsMeet_57 rfl rfl hh
      · have hh := hh.2 hc36
        refine rr_aload_n dX10_readsMeet_39 rfl rfl ?_
        refine rr_iconst dX10_readsMeet_40 rfl ⟨by decide, by decide⟩ ?_
        refine rr_aload_n dX10_readsMeet_41 rfl rfl ?_
        refine rr_getR cf_X10 (j := 12) (by decide) dX10_readsMeet_42 rfl q_766 hh (fun r9 hh => ?_)
        refine rr_iconst dX10_readsMeet_45 rfl ⟨by decide, by decide⟩ ?_
        refine rr_iald dX10_readsMeet_46 rfl hh (fun n10 hh => ?_)
        refine rr_bipush dX10_readsMeet_47 rfl ⟨by decide, by decide⟩ rfl ?_
        refine rr_iconst dX10_readsMeet_49 rfl ⟨by decide, by decide⟩ ?_
        refine rr_callW (bc' := 0) (bs' := 0) (q := (some x0)) (av := [vI 3, vI n10, vI 99, vI (-1)]) (st := []) mf_X10_number dX10_readsMeet_50 rfl q_878 q_880 qs_31 ⟨_, _, rfl⟩ rfl (by decide) (Nat.le_refl _) (Nat.le_refl _) hh (rr_kI fun n12 h11 hh => ?_)
        refine rr_if_ne (tgt := 58) dX10_readsMeet_53 rfl (by decide) (fun hc53 => ?_) (fun hc53 => ?_)
        · have hh := hh.1 hc53
          refine rr_aload_n dX10_readsMeet_58 rfl rfl ?_
          refine rr_getI cf_X10 (j := 11) (by decide) dX10_readsMeet_59 rfl q_765 hh (fun n13 hh => ?_)
          refine rr_if_eq (tgt := 121) dX10_readsMeet_62 rfl (by decide) (fun hc62 => ?_) (fun hc62 => ?_)
          · have hh := hh.1 hc62
            refine rr_iconst dX10_readsMeet_121 rfl ⟨by decide, by decide⟩ ?_
            exact rr_zret dX10_readsMeet_122 rfl rfl hh
          · have hh := hh.2 hc62
            refine rr_aload_n dX10_readsMeet_65 rfl rfl ?_
            refine rr_getR cf_X10 (j := 0) (by decide) dX10_readsMeet_66 rfl q_754 hh (fun r14 hh => ?_)
            refine rr_aload_n dX10_readsMeet_69 rfl rfl ?_
            refine rr_getR cf_X10 (j := 12) (by decide) dX10_readsMeet_70 rfl q_766 hh (fun r15 hh => ?_)
            refine rr_iconst dX10_readsMeet_73 rfl ⟨by decide, by decide⟩ ?_
            refine rr_iald dX10_readsMeet_74 rfl hh (fun n16 hh => ?_)
            refine rr_aload_n dX10_readsMeet_75 rfl rfl ?_
            refine rr_getR cf_X10 (j := 12) (by decide) dX10_readsMeet_76 rfl q_766 hh (fun r17 hh => ?_)
            refine rr_iconst dX10_readsMeet_79 rfl ⟨by decide, by decide⟩ ?_
            refine rr_iald dX10_readsMeet_80 rfl hh (fun n18 hh => ?_)
            refine rr_callS (bc' := 0) (bs' := 0) (av := [vI n16, vI n18]) (st := [vR r14]) mf_X10_meetAt dX10_readsMeet_81 rfl q_911 q_912 rfl (cs_le _ (Nat.le_of_ble_eq_true rfl)) (Nat.le_refl _) (Nat.le_refl _) hh (rr_kI fun n20 h19 hh => ?_)
            refine rr_aload_n dX10_readsMeet_84 rfl rfl ?_
            refine rr_getR cf_X10 (j := 12) (by decide) dX10_readsMeet_85 rfl q_766 hh (fun r21 hh => ?_)
            refine rr_iconst dX10_readsMeet_88 rfl ⟨by decide, by decide⟩ ?_
            refine rr_iald dX10_readsMeet_89 rfl hh (fun n22 hh => ?_)
            refine rr_iconst dX10_readsMeet_90 rfl ⟨by decide, by decide⟩ ?_
            obtain ⟨hz23, hh⟩ := hh
            refine rr_iadd dX10_readsMeet_91 rfl hz23 ?_
            refine rr_iast dX10_readsMeet_92 rfl hh (fun h24 hh => ?_)
            refine rr_aload_n dX10_readsMeet_93 rfl rfl ?_
            refine rr_getR cf_X10 (j := 0) (by decide) dX10_readsMeet_94 rfl q_754 hh (fun r25 hh => ?_)
            refine rr_aload_n dX10_readsMeet_97 rfl rfl ?_
            refine rr_getR cf_X10 (j := 12) (by decide) dX10_readsMeet_98 rfl q_766 hh (fun r26 hh => ?_)
            refine rr_iconst dX10_readsMeet_101 rfl ⟨by decide, by decide⟩ ?_
            refine rr_iald dX10_readsMeet_102 rfl hh (fun n27 hh => ?_)
            refine rr_aload_n dX10_readsMeet_103 rfl rfl ?_
            refine rr_getR cf_X10 (j := 12) (by decide) dX10_readsMeet_104 rfl q_766 hh (fun r28 hh => ?_)
            refine rr_iconst dX10_readsMeet_107 rfl ⟨by decide, by decide⟩ ?_
            refine rr_iald dX10_readsMeet_108 rfl hh (fun n29 hh => ?_)
            refine rr_callS (bc' := 0) (bs' := 0) (av := [vI n27, vI n29]) (st := [vR r25]) mf_X10_meetAt dX10_readsMeet_109 rfl q_911 q_912 rfl (cs_le _ (Nat.le_of_ble_eq_true rfl)) (Nat.le_refl _) (Nat.le_refl _) hh (rr_kI fun n31 h30 hh => ?_)
            refine rr_iconst dX10_readsMeet_112 rfl ⟨by decide, by decide⟩ ?_
            obtain ⟨hz32, hh⟩ := hh
            refine rr_iadd dX10_readsMeet_113 rfl hz32 ?_
            refine rr_aload_n dX10_readsMeet_114 rfl rfl ?_
            refine rr_getR cf_X10 (j := 12) (by decide) dX10_readsMeet_115 rfl q_766 hh (fun r33 hh => ?_)
            refine rr_iconst dX10_readsMeet_118 rfl ⟨by decide, by decide⟩ ?_
            refine rr_iald dX10_readsMeet_119 rfl hh (fun n34 hh => ?_)
            refine rr_iast dX10_readsMeet_120 rfl hh (fun h35 hh => ?_)
            refine rr_iconst dX10_readsMeet_121 rfl ⟨by decide, by decide⟩ ?_
            exact rr_zret dX10_readsMeet_122 rfl rfl hh
        · have hh := hh.2 hc53
          refine rr_iconst dX10_readsMeet_56 rfl ⟨by decide, by decide⟩ ?_
          exact rr_zret dX10_readsMeet_57 rfl rfl hh
theorem dX10_rowOf_0 : decode cX10_rowOf 0 = .ok (.aload_n 0, 1) := by decide +kernel
theorem dX10_rowOf_1 : decode cX10_rowOf 1 = .ok (.getfield 83, 3) := by decide +kernel
theorem dX10_rowOf_4 : decode cX10_rowOf 4 = .ok (.aload_n 0, 1) := by decide +kernel
theorem dX10_rowOf_5 : decode cX10_rowOf 5 = .ok (.getfield 68, 3) := by decide +kernel
theorem dX10_rowOf_8 : decode cX10_rowOf 8 = .ok (.if_icmp .eq 31, 3) := by decide +kernel
theorem dX10_rowOf_11 : decode cX10_rowOf 11 = .ok (.aload_n 0, 1) := by decide +kernel
theorem dX10_rowOf_12 : decode cX10_rowOf 12 = .ok (.getfield 17, 3) := by decide +kernel
theorem dX10_rowOf_15 : decode cX10_rowOf 15 = .ok (.aload_n 0, 1) := by decide +kernel
theorem dX10_rowOf_16 : decode cX10_rowOf 16 = .ok (.getfield 83, 3) := by decide +kernel
theorem dX10_rowOf_19 : decode cX10_rowOf 19 = .ok (.iaload, 1) := by decide +kernel
theorem dX10_rowOf_20 : decode cX10_rowOf 20 = .ok (.invokestatic 86, 3) := by decide +kernel
theorem dX10_rowOf_23 : decode cX10_rowOf 23 = .ok (.ifCond .eq 16, 3) := by decide +kernel
theorem dX10_rowOf_26 : decode cX10_rowOf 26 = .ok (.aload_n 0, 1) := by decide +kernel
theorem dX10_rowOf_27 : decode cX10_rowOf 27 = .ok (.getfield 80, 3) := by decide +kernel
theorem dX10_rowOf_30 : decode cX10_rowOf 30 = .ok (.aload_n 0, 1) := by decide +kernel
theorem dX10_rowOf_31 : decode cX10_rowOf 31 = .ok (.getfield 83, 3) := by decide +kernel
theorem dX10_rowOf_34 : decode cX10_rowOf 34 = .ok (.isub, 1) := by decide +kernel
theorem dX10_rowOf_35 : decode cX10_rowOf 35 = .ok (.iload_n 1, 1) := by decide +kernel
theorem dX10_rowOf_36 : decode cX10_rowOf 36 = .ok (.if_icmp .le 5, 3) := by decide +kernel
theorem dX10_rowOf_39 : decode cX10_rowOf 39 = .ok (.iconst 0, 1) := by decide +kernel
theorem dX10_rowOf_40 : decode cX10_rowOf 40 = .ok (.ireturn, 1) := by decide +kernel
theorem dX10_rowOf_41 : decode cX10_rowOf 41 = .ok (.aload_n 0, 1) := by decide +kernel
theorem dX10_rowOf_42 : decode cX10_rowOf 42 = .ok (.getfield 80, 3) := by decide +kernel
theorem dX10_rowOf_45 : decode cX10_rowOf 45 = .ok (.aload_n 0, 1) := by decide +kernel
theorem dX10_rowOf_46 : decode cX10_rowOf 46 = .ok (.getfield 83, 3) := by decide +kernel
theorem dX10_rowOf_49 : decode cX10_rowOf 49 = .ok (.isub, 1) := by decide +kernel
theorem dX10_rowOf_50 : decode cX10_rowOf 50 = .ok (.istore_n 3, 1) := by decide +kernel
theorem dX10_rowOf_51 : decode cX10_rowOf 51 = .ok (.iconst 0, 1) := by decide +kernel
theorem dX10_rowOf_52 : decode cX10_rowOf 52 = .ok (.istore 4, 2) := by decide +kernel
theorem dX10_rowOf_54 : decode cX10_rowOf 54 = .ok (.iload 4, 2) := by decide +kernel
theorem dX10_rowOf_56 : decode cX10_rowOf 56 = .ok (.iload_n 3, 1) := by decide +kernel
theorem dX10_rowOf_57 : decode cX10_rowOf 57 = .ok (.if_icmp .ge 40, 3) := by decide +kernel
theorem dX10_rowOf_60 : decode cX10_rowOf 60 = .ok (.aload_n 0, 1) := by decide +kernel
theorem dX10_rowOf_61 : decode cX10_rowOf 61 = .ok (.getfield 120, 3) := by decide +kernel
theorem dX10_rowOf_64 : decode cX10_rowOf 64 = .ok (.ifCond .eq 33, 3) := by decide +kernel
theorem dX10_rowOf_67 : decode cX10_rowOf 67 = .ok (.aload_n 0, 1) := by decide +kernel
theorem dX10_rowOf_68 : decode cX10_rowOf 68 = .ok (.getfield 7, 3) := by decide +kernel
theorem dX10_rowOf_71 : decode cX10_rowOf 71 = .ok (.iload_n 2, 1) := by decide +kernel
theorem dX10_rowOf_72 : decode cX10_rowOf 72 = .ok (.iload 4, 2) := by decide +kernel
theorem dX10_rowOf_74 : decode cX10_rowOf 74 = .ok (.iadd, 1) := by decide +kernel
theorem dX10_rowOf_75 : decode cX10_rowOf 75 = .ok (.aload_n 0, 1) := by decide +kernel
theorem dX10_rowOf_76 : decode cX10_rowOf 76 = .ok (.getfield 17, 3) := by decide +kernel
theorem dX10_rowOf_79 : decode cX10_rowOf 79 = .ok (.aload_n 0, 1) := by decide +kernel
theorem dX10_rowOf_80 : decode cX10_rowOf 80 = .ok (.getfield 83, 3) := by decide +kernel
theorem dX10_rowOf_83 : decode cX10_rowOf 83 = .ok (.iload 4, 2) := by decide +kernel
theorem dX10_rowOf_85 : decode cX10_rowOf 85 = .ok (.iadd, 1) := by decide +kernel
theorem dX10_rowOf_86 : decode cX10_rowOf 86 = .ok (.iaload, 1) := by decide +kernel
theorem dX10_rowOf_87 : decode cX10_rowOf 87 = .ok (.bipush 97, 2) := by decide +kernel
theorem dX10_rowOf_89 : decode cX10_rowOf 89 = .ok (.isub, 1) := by decide +kernel
theorem dX10_rowOf_90 : decode cX10_rowOf 90 = .ok (.iastore, 1) := by decide +kernel
theorem dX10_rowOf_91 : decode cX10_rowOf 91 = .ok (.iinc 4 1, 3) := by decide +kernel
theorem dX10_rowOf_94 : decode cX10_rowOf 94 = .ok (.goto (-40), 3) := by decide +kernel
theorem dX10_rowOf_97 : decode cX10_rowOf 97 = .ok (.aload_n 0, 1) := by decide +kernel
theorem dX10_rowOf_98 : decode cX10_rowOf 98 = .ok (.invokevirtual 96, 3) := by decide +kernel
theorem dX10_rowOf_101 : decode cX10_rowOf 101 = .ok (.iload_n 3, 1) := by decide +kernel
theorem dX10_rowOf_102 : decode cX10_rowOf 102 = .ok (.ireturn, 1) := by decide +kernel
set_option maxRecDepth 100000 in
theorem B_X10_rowOf_0 {d : Nat} {h : AbH} {K : Option AbV → AbH → Prop} {x0 : Nat} {x1 : Int} {x2 : Int} (hh : wpGI h (some x0) 9 5 (fun n1 => wpGI h (some x0) 9 4 (fun n2 => ((n1 = n2 → K (some (vI 0)) h) ∧ (¬ (n1 = n2) → wpGR h (some x0) 9 3 (fun r3 => wpGI h (some x0) 9 5 (fun n4 => wpLI h r3 n4 (fun n5 => Vm d m_X10_isSmall [vI n5] h (kI (fun n7 h6 => ((n7 = 0 → K (some (vI 0)) h6) ∧ (¬ (n7 = 0) → wpGI h6 (some x0) 9 6 (fun n8 => wpGI h6 (some x0) 9 5 (fun n9 => in32 (n8 - n9) ∧ (((n8 - n9) ≤ x1 → wpGI h6 (some x0) 9 6 (fun n11 => wpGI h6 (some x0) 9 5 (fun n12 => in32 (n11 - n12) ∧ Vx (d + 1) m_X10_rowOf 0 0 54 [some (vR (some x0)), some (vI x1), some (vI x2), some (vI (n11 - n12)), some (vI 0)] [] h6 K))) ∧ (¬ ((n8 - n9) ≤ x1) → K (some (vI 0)) h6)))))))))))))))) : Vx (d + 1) m_X10_rowOf 0 0 0 [some (vR (some x0)), some (vI x1), some (vI x2)] [] h K := by
  refine Vx.pad 2 [some (vR (some x0)), some (vI x1), some (vI x2), none, none] rfl ?_
  refine rr_aload_n dX10_rowOf_0 rfl rfl ?_
  refine rr_getI cf_X10 (j := 5) (by decide) dX10_rowOf_1 rfl q_759 hh (fun n1 hh => ?_)
  refine rr_aload_n dX10_rowOf_4 rfl rfl ?_
  refine rr_getI cf_X10 (j := 4) (by decide) dX10_rowOf_5 rfl q_758 hh (fun n2 hh => ?_)
  refine rr_icmp_eq (tgt := 39) dX10_rowOf_8 rfl (by decide) (fun hc8 => ?_) (fun hc8 => ?_)
  · have hh := hh.1 hc8
    refine rr_iconst dX10_rowOf_39 rfl ⟨by decide, by decide⟩ ?_
    exact rr_iret dX10_rowOf_40 rfl hh
  · have hh := hh.2 hc8
    refine rr_aload_n dX10_rowOf_11 rfl rfl ?_
    refine rr_getR cf_X10 (j := 3) (by decide) dX10_rowOf_12 rfl q_757 hh (fun r3 hh => ?_)
    refine rr_aload_n dX10_rowOf_15 rfl rfl ?_
    refine rr_getI cf_X10 (j := 5) (by decide) dX10_rowOf_16 rfl q_759 hh (fun n4 hh => ?_)
    refine rr_iald dX10_rowOf_19 rfl hh (fun n5 hh => ?_)
    refine rr_callS (bc' := 0) (bs' := 0) (av := [vI n5]) (st := []) mf_X10_isSmall dX10_rowOf_20 rfl q_856 q_857 rfl (by decide) (Nat.le_refl _) (Nat.le_refl _) hh (rr_kI fun n7 h6 hh => ?_)
    refine rr_if_eq (tgt := 39) dX10_rowOf_23 rfl (by decide) (fun hc23 => ?_) (fun hc23 => ?_)
    · have hh := hh.1 hc23
      refine rr_iconst dX10_rowOf_39 rfl ⟨by decide, by decide⟩ ?_
      exact rr_iret dX10_rowOf_40 rfl hh
    · have hh := hh.2 hc23
      refine rr_aload_n dX10_rowOf_26 rfl rfl ?_
      refine rr_getI cf_X10 (j := 6) (by decide) dX10_rowOf_27 rfl q_760 hh (fun n8 hh => ?_)
      refine rr_aload_n dX10_rowOf_30 rfl rfl ?_
      refine rr_getI cf_X10 (j := 5) (by decide) dX10_rowOf_31 rfl q_759 hh (fun n9 hh => ?_)
      obtain ⟨hz10, hh⟩ := hh
      refine rr_isub dX10_rowOf_34 rfl hz10 ?_
      refine rr_iload_n dX10_rowOf_35 rfl rfl ?_
      refine rr_icmp_le (tgt := 41) dX10_rowOf_36 rfl (by decide) (fun hc36 => ?_) (fun hc36 => ?_)
      · have hh := hh.1 hc36
        refine rr_aload_n dX10_rowOf_41 rfl rfl ?_
        refine rr_getI cf_X10 (j := 6) (by decide) dX10_rowOf_42 rfl q_760 hh (fun n11 hh => ?_)
        refine rr_aload_n dX10_rowOf_45 rfl rfl ?_
        refine rr_getI cf_X10 (j := 5) (by decide) dX10_rowOf_46 rfl q_759 hh (fun n12 hh => ?_)
        obtain ⟨hz13, hh⟩ := hh
        refine rr_isub dX10_rowOf_49 rfl hz13 ?_
        refine rr_istore_n (ls' := [some (vR (some x0)), some (vI x1), some (vI x2), some (vI (n11 - n12)), none]) dX10_rowOf_50 rfl (by decide) (fun _ z => by cases z) rfl ?_
        refine rr_iconst dX10_rowOf_51 rfl ⟨by decide, by decide⟩ ?_
        refine rr_istore (ls' := [some (vR (some x0)), some (vI x1), some (vI x2), some (vI (n11 - n12)), some (vI 0)]) dX10_rowOf_52 rfl (by decide) (fun _ z => by cases z) rfl ?_
        exact hh
      · have hh := hh.2 hc36
        refine rr_iconst dX10_rowOf_39 rfl ⟨by decide, by decide⟩ ?_
        exact rr_iret dX10_rowOf_40 rfl hh
set_option maxRecDepth 100000 in
theorem B_X10_rowOf_54 {d : Nat} {h : AbH} {K : Option AbV → AbH → Prop} {x0 : Nat} {x1 : Int} {x2 : Int} {x3 : Int} {x4 : Int} {bc bs : Nat} (hh : ((x3 ≤ x4 → wpCV h (some x0) 9 (fun b2 => Vm d m_X10_nextToken [vR (some b2)] h (kV (fun h1 => K (some (vI x3)) h1)))) ∧ (¬ (x3 ≤ x4) → wpGI h (some x0) 9 11 (fun n3 => ((n3 = 0 → wpCV h (some x0) 9 (fun b5 => Vm d m_X10_nextToken [vR (some b5)] h (kV (fun h4 => K (some (vI x3)) h4)))) ∧ (¬ (n3 = 0) → wpGR h (some x0) 9 0 (fun r6 => in32 (x2 + x4) ∧ wpGR h (some x0) 9 3 (fun r8 => wpGI h (some x0) 9 5 (fun n9 => in32 (n9 + x4) ∧ wpLI h r8 (n9 + x4) (fun n11 => in32 (n11 - 97) ∧ wpSI h r6 (x2 + x4) (n11 - 97) (fun h13 => in32 (x4 + 1) ∧ Vx (d + 1) m_X10_rowOf bc bs 54 [some (vR (some x0)), some (vI x1), some (vI x2), some (vI x3), some (vI (x4 + 1))] [] h13 K))))))))))) : Vx (d + 1) m_X10_rowOf bc bs 54 [some (vR (some x0)), some (vI x1), some (vI x2), some (vI x3), some (vI x4)] [] h K := by
  refine rr_iload dX10_rowOf_54 rfl rfl ?_
  refine rr_iload_n dX10_rowOf_56 rfl rfl ?_
  refine rr_icmp_ge (tgt := 97) dX10_rowOf_57 rfl (by decide) (fun hc57 => ?_) (fun hc57 => ?_)
  · have hh := hh.1 hc57
    refine rr_aload_n dX10_rowOf_97 rfl rfl ?_
    refine rr_callW (bc' := bc) (bs' := bs) (q := (some x0)) (av := []) (st := []) mf_X10_nextToken dX10_rowOf_98 rfl q_852 q_854 qs_27 ⟨_, _, rfl⟩ rfl (by decide) (Nat.le_refl _) (Nat.le_refl _) hh (rr_kV fun h1 hh => ?_)
    refine rr_iload_n dX10_rowOf_101 rfl rfl ?_
    exact rr_iret dX10_rowOf_102 rfl hh
  · have hh := hh.2 hc57
    refine rr_aload_n dX10_rowOf_60 rfl rfl ?_
    refine rr_getI cf_X10 (j := 11) (by decide) dX10_rowOf_61 rfl q_765 hh (fun n3 hh => ?_)
    refine rr_if_eq (tgt := 97) dX10_rowOf_64 rfl (by decide) (fun hc64 => ?_) (fun hc64 => ?_)
    · have hh := hh.1 hc64
      refine rr_aload_n dX10_rowOf_97 rfl rfl ?_
      refine rr_callW (bc' := bc) (bs' := bs) (q := (some x0)) (av := []) (st := []) mf_X10_nextToken dX10_rowOf_98 rfl q_852 q_854 qs_27 ⟨_, _, rfl⟩ rfl (by decide) (Nat.le_refl _) (Nat.le_refl _) hh (rr_kV fun h4 hh => ?_)
      refine rr_iload_n dX10_rowOf_101 rfl rfl ?_
      exact rr_iret dX10_rowOf_102 rfl hh
    · have hh := hh.2 hc64
      refine rr_aload_n dX10_rowOf_67 rfl rfl ?_
      refine rr_getR cf_X10 (j := 0) (by decide) dX10_rowOf_68 rfl q_754 hh (fun r6 hh => ?_)
      refine rr_iload_n dX10_rowOf_71 rfl rfl ?_
      refine rr_iload dX10_rowOf_72 rfl rfl ?_
      obtain ⟨hz7, hh⟩ := hh
      refine rr_iadd dX10_rowOf_74 rfl hz7 ?_
      refine rr_aload_n dX10_rowOf_75 rfl rfl ?_
      refine rr_getR cf_X10 (j := 3) (by decide) dX10_rowOf_76 rfl q_757 hh (fun r8 hh => ?_)
      refine rr_aload_n dX10_rowOf_79 rfl rfl ?_
      refine rr_getI cf_X10 (j := 5) (by decide) dX10_rowOf_80 rfl q_759 hh (fun n9 hh => ?_)
      refine rr_iload dX10_rowOf_83 rfl rfl ?_
      obtain ⟨hz10, hh⟩ := hh
      refine rr_iadd dX10_rowOf_85 rfl hz10 ?_
      refine rr_iald dX10_rowOf_86 rfl hh (fun n11 hh => ?_)
      refine rr_bipush dX10_rowOf_87 rfl ⟨by decide, by decide⟩ rfl ?_
      obtain ⟨hz12, hh⟩ := hh
      refine rr_isub dX10_rowOf_89 rfl hz12 ?_
      refine rr_iast dX10_rowOf_90 rfl hh (fun h13 hh => ?_)
      obtain ⟨hz14, hh⟩ := hh
      refine rr_iinc (ls' := [some (vR (some x0)), some (vI x1), some (vI x2), some (vI x3), some (vI (x4 + 1))]) dX10_rowOf_91 rfl rfl (by decide) (fun _ z => by cases z) hz14 rfl ?_
      refine rr_goto (pc' := 54) dX10_rowOf_94 (by decide) ?_
      exact hh
theorem dX10_readsLoan_0 : decode cX10_readsLoan 0 = .ok (.aload_n 0, 1) := by decide +kernel
theorem dX10_readsLoan_1 : decode cX10_readsLoan 1 = .ok (.iconst 0, 1) := by decide +kernel
theorem dX10_readsLoan_2 : decode cX10_readsLoan 2 = .ok (.iconst 0, 1) := by decide +kernel
theorem dX10_readsLoan_3 : decode cX10_readsLoan 3 = .ok (.iconst 3, 1) := by decide +kernel
theorem dX10_readsLoan_4 : decode cX10_readsLoan 4 = .ok (.iconst (-1), 1) := by decide +kernel
theorem dX10_readsLoan_5 : decode cX10_readsLoan 5 = .ok (.invokevirtual 106, 3) := by decide +kernel
theorem dX10_readsLoan_8 : decode cX10_readsLoan 8 = .ok (.ifCond .eq 19, 3) := by decide +kernel
theorem dX10_readsLoan_11 : decode cX10_readsLoan 11 = .ok (.aload_n 0, 1) := by decide +kernel
theorem dX10_readsLoan_12 : decode cX10_readsLoan 12 = .ok (.iconst 1, 1) := by decide +kernel
theorem dX10_readsLoan_13 : decode cX10_readsLoan 13 = .ok (.iconst 0, 1) := by decide +kernel
theorem dX10_readsLoan_14 : decode cX10_readsLoan 14 = .ok (.iconst 3, 1) := by decide +kernel
theorem dX10_readsLoan_15 : decode cX10_readsLoan 15 = .ok (.aload_n 0, 1) := by decide +kernel
theorem dX10_readsLoan_16 : decode cX10_readsLoan 16 = .ok (.getfield 23, 3) := by decide +kernel
theorem dX10_readsLoan_19 : decode cX10_readsLoan 19 = .ok (.iconst 0, 1) := by decide +kernel
theorem dX10_readsLoan_20 : decode cX10_readsLoan 20 = .ok (.iaload, 1) := by decide +kernel
theorem dX10_readsLoan_21 : decode cX10_readsLoan 21 = .ok (.invokevirtual 106, 3) := by decide +kernel
theorem dX10_readsLoan_24 : decode cX10_readsLoan 24 = .ok (.ifCond .ne 5, 3) := by decide +kernel
theorem dX10_readsLoan_27 : decode cX10_readsLoan 27 = .ok (.iconst 0, 1) := by decide +kernel
theorem dX10_readsLoan_28 : decode cX10_readsLoan 28 = .ok (.ireturn, 1) := by decide +kernel
theorem dX10_readsLoan_29 : decode cX10_readsLoan 29 = .ok (.aload_n 0, 1) := by decide +kernel
theorem dX10_readsLoan_30 : decode cX10_readsLoan 30 = .ok (.getfield 120, 3) := by decide +kernel
theorem dX10_readsLoan_33 : decode cX10_readsLoan 33 = .ok (.ifCond .eq 12, 3) := by decide +kernel
theorem dX10_readsLoan_36 : decode cX10_readsLoan 36 = .ok (.aload_n 0, 1) := by decide +kernel
theorem dX10_readsLoan_37 : decode cX10_readsLoan 37 = .ok (.getfield 7, 3) := by decide +kernel
theorem dX10_readsLoan_40 : decode cX10_readsLoan 40 = .ok (.iconst 1, 1) := by decide +kernel
theorem dX10_readsLoan_41 : decode cX10_readsLoan 41 = .ok (.iaload, 1) := by decide +kernel
theorem dX10_readsLoan_42 : decode cX10_readsLoan 42 = .ok (.goto 4, 3) := by decide +kernel
theorem dX10_readsLoan_45 : decode cX10_readsLoan 45 = .ok (.iconst 0, 1) := by decide +kernel
theorem dX10_readsLoan_46 : decode cX10_readsLoan 46 = .ok (.invokestatic 128, 3) := by decide +kernel
theorem dX10_readsLoan_49 : decode cX10_readsLoan 49 = .ok (.istore_n 1, 1) := by decide +kernel
theorem dX10_readsLoan_50 : decode cX10_readsLoan 50 = .ok (.aload_n 0, 1) := by decide +kernel
theorem dX10_readsLoan_51 : decode cX10_readsLoan 51 = .ok (.bipush 8, 2) := by decide +kernel
theorem dX10_readsLoan_53 : decode cX10_readsLoan 53 = .ok (.iload_n 1, 1) := by decide +kernel
theorem dX10_readsLoan_54 : decode cX10_readsLoan 54 = .ok (.iconst 4, 1) := by decide +kernel
theorem dX10_readsLoan_55 : decode cX10_readsLoan 55 = .ok (.iadd, 1) := by decide +kernel
theorem dX10_readsLoan_56 : decode cX10_readsLoan 56 = .ok (.invokevirtual 132, 3) := by decide +kernel
theorem dX10_readsLoan_59 : decode cX10_readsLoan 59 = .ok (.istore_n 2, 1) := by decide +kernel
theorem dX10_readsLoan_60 : decode cX10_readsLoan 60 = .ok (.iload_n 2, 1) := by decide +kernel
theorem dX10_readsLoan_61 : decode cX10_readsLoan 61 = .ok (.ifCond .ne 5, 3) := by decide +kernel
theorem dX10_readsLoan_64 : decode cX10_readsLoan 64 = .ok (.iconst 0, 1) := by decide +kernel
theorem dX10_readsLoan_65 : decode cX10_readsLoan 65 = .ok (.ireturn, 1) := by decide +kernel
theorem dX10_readsLoan_66 : decode cX10_readsLoan 66 = .ok (.iconst 0, 1) := by decide +kernel
theorem dX10_readsLoan_67 : decode cX10_readsLoan 67 = .ok (.istore_n 3, 1) := by decide +kernel
theorem dX10_readsLoan_68 : decode cX10_readsLoan 68 = .ok (.aload_n 0, 1) := by decide +kernel
theorem dX10_readsLoan_69 : decode cX10_readsLoan 69 = .ok (.bipush 45, 2) := by decide +kernel
theorem dX10_readsLoan_71 : decode cX10_readsLoan 71 = .ok (.invokevirtual 99, 3) := by decide +kernel
theorem dX10_readsLoan_74 : decode cX10_readsLoan 74 = .ok (.ifCond .eq 10, 3) := by decide +kernel
theorem dX10_readsLoan_77 : decode cX10_readsLoan 77 = .ok (.aload_n 0, 1) := by decide +kernel
theorem dX10_readsLoan_78 : decode cX10_readsLoan 78 = .ok (.invokevirtual 96, 3) := by decide +kernel
theorem dX10_readsLoan_81 : decode cX10_readsLoan 81 = .ok (.goto 20, 3) := by decide +kernel
theorem dX10_readsLoan_84 : decode cX10_readsLoan 84 = .ok (.aload_n 0, 1) := by decide +kernel
theorem dX10_readsLoan_85 : decode cX10_readsLoan 85 = .ok (.bipush 10, 2) := by decide +kernel
theorem dX10_readsLoan_87 : decode cX10_readsLoan 87 = .ok (.iload_n 1, 1) := by decide +kernel
theorem dX10_readsLoan_88 : decode cX10_readsLoan 88 = .ok (.bipush 12, 2) := by decide +kernel
theorem dX10_readsLoan_90 : decode cX10_readsLoan 90 = .ok (.iadd, 1) := by decide +kernel
theorem dX10_readsLoan_91 : decode cX10_readsLoan 91 = .ok (.invokevirtual 132, 3) := by decide +kernel
theorem dX10_readsLoan_94 : decode cX10_readsLoan 94 = .ok (.istore_n 3, 1) := by decide +kernel
theorem dX10_readsLoan_95 : decode cX10_readsLoan 95 = .ok (.iload_n 3, 1) := by decide +kernel
theorem dX10_readsLoan_96 : decode cX10_readsLoan 96 = .ok (.ifCond .ne 5, 3) := by decide +kernel
theorem dX10_readsLoan_99 : decode cX10_readsLoan 99 = .ok (.iconst 0, 1) := by decide +kernel
theorem dX10_readsLoan_100 : decode cX10_readsLoan 100 = .ok (.ireturn, 1) := by decide +kernel
theorem dX10_readsLoan_101 : decode cX10_readsLoan 101 = .ok (.aload_n 0, 1) := by decide +kernel
theorem dX10_readsLoan_102 : decode cX10_readsLoan 102 = .ok (.dup, 1) := by decide +kernel
theorem dX10_readsLoan_103 : decode cX10_readsLoan 103 = .ok (.getfield 135, 3) := by decide +kernel
theorem dX10_readsLoan_106 : decode cX10_readsLoan 106 = .ok (.iconst 1, 1) := by decide +kernel
theorem dX10_readsLoan_107 : decode cX10_readsLoan 107 = .ok (.iadd, 1) := by decide +kernel
theorem dX10_readsLoan_108 : decode cX10_readsLoan 108 = .ok (.putfield 135, 3) := by decide +kernel
theorem dX10_readsLoan_111 : decode cX10_readsLoan 111 = .ok (.aload_n 0, 1) := by decide +kernel
theorem dX10_readsLoan_112 : decode cX10_readsLoan 112 = .ok (.getfield 120, 3) := by decide +kernel
theorem dX10_readsLoan_115 : decode cX10_readsLoan 115 = .ok (.ifCond .eq 59, 3) := by decide +kernel
theorem dX10_readsLoan_118 : decode cX10_readsLoan 118 = .ok (.aload_n 0, 1) := by decide +kernel
theorem dX10_readsLoan_119 : decode cX10_readsLoan 119 = .ok (.getfield 7, 3) := by decide +kernel
theorem dX10_readsLoan_122 : decode cX10_readsLoan 122 = .ok (.iload_n 1, 1) := by decide +kernel
theorem dX10_readsLoan_123 : decode cX10_readsLoan 123 = .ok (.iconst 0, 1) := by decide +kernel
theorem dX10_readsLoan_124 : decode cX10_readsLoan 124 = .ok (.iadd, 1) := by decide +kernel
theorem dX10_readsLoan_125 : decode cX10_readsLoan 125 = .ok (.aload_n 0, 1) := by decide +kernel
theorem dX10_readsLoan_126 : decode cX10_readsLoan 126 = .ok (.getfield 23, 3) := by decide +kernel
theorem dX10_readsLoan_129 : decode cX10_readsLoan 129 = .ok (.iconst 0, 1) := by decide +kernel
theorem dX10_readsLoan_130 : decode cX10_readsLoan 130 = .ok (.iaload, 1) := by decide +kernel
theorem dX10_readsLoan_131 : decode cX10_readsLoan 131 = .ok (.iastore, 1) := by decide +kernel
theorem dX10_readsLoan_132 : decode cX10_readsLoan 132 = .ok (.aload_n 0, 1) := by decide +kernel
theorem dX10_readsLoan_133 : decode cX10_readsLoan 133 = .ok (.getfield 7, 3) := by decide +kernel
theorem dX10_readsLoan_136 : decode cX10_readsLoan 136 = .ok (.iload_n 1, 1) := by decide +kernel
theorem dX10_readsLoan_137 : decode cX10_readsLoan 137 = .ok (.iconst 1, 1) := by decide +kernel
theorem dX10_readsLoan_138 : decode cX10_readsLoan 138 = .ok (.iadd, 1) := by decide +kernel
theorem dX10_readsLoan_139 : decode cX10_readsLoan 139 = .ok (.aload_n 0, 1) := by decide +kernel
theorem dX10_readsLoan_140 : decode cX10_readsLoan 140 = .ok (.getfield 23, 3) := by decide +kernel
theorem dX10_readsLoan_143 : decode cX10_readsLoan 143 = .ok (.iconst 1, 1) := by decide +kernel
theorem dX10_readsLoan_144 : decode cX10_readsLoan 144 = .ok (.iaload, 1) := by decide +kernel
theorem dX10_readsLoan_145 : decode cX10_readsLoan 145 = .ok (.iastore, 1) := by decide +kernel
theorem dX10_readsLoan_146 : decode cX10_readsLoan 146 = .ok (.aload_n 0, 1) := by decide +kernel
theorem dX10_readsLoan_147 : decode cX10_readsLoan 147 = .ok (.getfield 7, 3) := by decide +kernel
theorem dX10_readsLoan_150 : decode cX10_readsLoan 150 = .ok (.iload_n 1, 1) := by decide +kernel
theorem dX10_readsLoan_151 : decode cX10_readsLoan 151 = .ok (.iconst 2, 1) := by decide +kernel
theorem dX10_readsLoan_152 : decode cX10_readsLoan 152 = .ok (.iadd, 1) := by decide +kernel
theorem dX10_readsLoan_153 : decode cX10_readsLoan 153 = .ok (.iload_n 2, 1) := by decide +kernel
theorem dX10_readsLoan_154 : decode cX10_readsLoan 154 = .ok (.iastore, 1) := by decide +kernel
theorem dX10_readsLoan_155 : decode cX10_readsLoan 155 = .ok (.aload_n 0, 1) := by decide +kernel
theorem dX10_readsLoan_156 : decode cX10_readsLoan 156 = .ok (.getfield 7, 3) := by decide +kernel
theorem dX10_readsLoan_159 : decode cX10_readsLoan 159 = .ok (.iload_n 1, 1) := by decide +kernel
theorem dX10_readsLoan_160 : decode cX10_readsLoan 160 = .ok (.iconst 3, 1) := by decide +kernel
theorem dX10_readsLoan_161 : decode cX10_readsLoan 161 = .ok (.iadd, 1) := by decide +kernel
theorem dX10_readsLoan_162 : decode cX10_readsLoan 162 = .ok (.iload_n 3, 1) := by decide +kernel
theorem dX10_readsLoan_163 : decode cX10_readsLoan 163 = .ok (.iastore, 1) := by decide +kernel
theorem dX10_readsLoan_164 : decode cX10_readsLoan 164 = .ok (.aload_n 0, 1) := by decide +kernel
theorem dX10_readsLoan_165 : decode cX10_readsLoan 165 = .ok (.getfield 7, 3) := by decide +kernel
theorem dX10_readsLoan_168 : decode cX10_readsLoan 168 = .ok (.iconst 1, 1) := by decide +kernel
theorem dX10_readsLoan_169 : decode cX10_readsLoan 169 = .ok (.dup2, 1) := by decide +kernel
theorem dX10_readsLoan_170 : decode cX10_readsLoan 170 = .ok (.iaload, 1) := by decide +kernel
theorem dX10_readsLoan_171 : decode cX10_readsLoan 171 = .ok (.iconst 1, 1) := by decide +kernel
theorem dX10_readsLoan_172 : decode cX10_readsLoan 172 = .ok (.iadd, 1) := by decide +kernel
theorem dX10_readsLoan_173 : decode cX10_readsLoan 173 = .ok (.iastore, 1) := by decide +kernel
theorem dX10_readsLoan_174 : decode cX10_readsLoan 174 = .ok (.iconst 1, 1) := by decide +kernel
theorem dX10_readsLoan_175 : decode cX10_readsLoan 175 = .ok (.ireturn, 1) := by decide +kernel
set_option maxRecDepth 100000 in
theorem B_X10_readsLoan_0 {d : Nat} {h : AbH} {K : Option AbV → AbH → Prop} {x0 : Nat} (hh : wpCV h (some x0) 9 (fun b41 => Vm d m_X10_number [vR (some b41), vI 0, vI 0, vI 3, vI (-1)] h (kI (fun n2 h1 => ((n2 = 0 → K (some (vI 0)) h1) ∧ (¬ (n2 = 0) → wpGR h1 (some x0) 9 12 (fun r3 => wpLI h1 r3 0 (fun n4 => wpCV h1 (some x0) 9 (fun b40 => Vm d m_X10_number [vR (some b40), vI 1, vI 0, vI 3, vI n4] h1 (kI (fun n6 h5 => ((n6 ≠ 0 → wpGI h5 (some x0) 9 11 (fun n7 => ((n7 = 0 → Vm d m_X10_loanAt [vI 0] h5 (kI (fun n9 h8 => in32 (n9 + 4) ∧ wpCV h8 (some x0) 9 (fun b22 => Vm d m_X10_rowOf [vR (some b22), vI 8, vI (n9 + 4)] h8 (kI (fun n12 h11 => ((n12 ≠ 0 → wpCV h11 (some x0) 9 (fun b21 => Vm d m_X10_isSign [vR (some b21), vI 45] h11 (kI (fun n14 h13 => ((n14 = 0 → in32 (n9 + 12) ∧ wpCV h13 (some x0) 9 (fun b18 => Vm d m_X10_rowOf [vR (some b18), vI 10, vI (n9 + 12)] h13 (kI (fun n17 h16 => ((n17 ≠ 0 → Vx (d + 1) m_X10_readsLoan 0 0 101 [some (vR (some x0)), some (vI n9), some (vI n12), some (vI n17)] [] h16 K) ∧ (¬ (n17 ≠ 0) → K (some (vI 0)) h16)))))) ∧ (¬ (n14 = 0) → wpCV h13 (some x0) 9 (fun b20 => Vm d m_X10_nextToken [vR (some b20)] h13 (kV (fun h19 => Vx (d + 1) m_X10_readsLoan 0 0 101 [some (vR (some x0)), some (vI n9), some (vI n12), some (vI 0)] [] h19 K))))))))) ∧ (¬ (n12 ≠ 0) → K (some (vI 0)) h11)))))))) ∧ (¬ (n7 = 0) → wpGR h5 (some x0) 9 0 (fun r23 => wpLI h5 r23 1 (fun n24 => Vm d m_X10_loanAt [vI n24] h5 (kI (fun n26 h25 => in32 (n26 + 4) ∧ wpCV h25 (some x0) 9 (fun b39 => Vm d m_X10_rowOf [vR (some b39), vI 8, vI (n26 + 4)] h25 (kI (fun n29 h28 => ((n29 ≠ 0 → wpCV h28 (some x0) 9 (fun b38 => Vm d m_X10_isSign [vR (some b38), vI 45] h28 (kI (fun n31 h30 => ((n31 = 0 → in32 (n26 + 12) ∧ wpCV h30 (some x0) 9 (fun b35 => Vm d m_X10_rowOf [vR (some b35), vI 10, vI (n26 + 12)] h30 (kI (fun n34 h33 => ((n34 ≠ 0 → Vx (d + 1) m_X10_readsLoan 0 0 101 [some (vR (some x0)), some (vI n26), some (vI n29), some (vI n34)] [] h33 K) ∧ (¬ (n34 ≠ 0) → K (some (vI 0)) h33)))))) ∧ (¬ (n31 = 0) → wpCV h30 (some x0) 9 (fun b37 => Vm d m_X10_nextToken [vR (some b37)] h30 (kV (fun h36 => Vx (d + 1) m_X10_readsLoan 0 0 101 [some (vR (some x0)), some (vI n26), some (vI n29), some (vI 0)] [] h36 K))))))))) ∧ (¬ (n29 ≠ 0) → K (some (vI 0)) h28))))))))))))) ∧ (¬ (n6 ≠ 0) → K (some (vI 0)) h5))))))))))))) : Vx (d + 1) m_X10_readsLoan 0 0 0 [some (vR (some x0))] [] h K := by
  refine Vx.pad 3 [some (vR (some x0)), none, none, none] rfl ?_
  refine rr_aload_n dX10_readsLoan_0 rfl rfl ?_
  refine rr_iconst dX10_readsLoan_1 rfl ⟨by decide, by decide⟩ ?_
  refine rr_iconst dX10_readsLoan_2 rfl ⟨by decide, by decide⟩ ?_
  refine rr_iconst dX10_readsLoan_3 rfl ⟨by decide, by decide⟩ ?_
  refine rr_iconst dX10_readsLoan_4 rfl ⟨by decide, by decide⟩ ?_
  refine rr_callW (bc' := 0) (bs' := 0) (q := (some x0)) (av := [vI 0, vI 0, vI 3, vI (-1)]) (st := []) mf_X10_number dX10_readsLoan_5 rfl q_878 q_880 qs_31 ⟨_, _, rfl⟩ rfl (by decide) (Nat.le_refl _) (Nat.le_refl _) hh (rr_kI fun n2 h1 hh => ?_)
  refine rr_if_eq (tgt := 27) dX10_readsLoan_8 rfl (by decide) (fun hc8 => ?_) (fun hc8 => ?_)
  · have hh := hh.1 hc8
    refine rr_iconst dX10_readsLoan_27 rfl ⟨by decide, by decide⟩ ?_
    exact rr_zret dX10_readsLoan_28 rfl rfl hh
  · have hh := hh.2 hc8
    refine rr_aload_n dX10_readsLoan_11 rfl rfl ?_
    refine rr_iconst dX10_readsLoan_12 rfl ⟨by decide, by decide⟩ ?_
    refine rr_iconst dX10_readsLoan_13 rfl ⟨by decide, by decide⟩ ?_
    refine rr_iconst dX10_readsLoan_14 rfl ⟨by decide, by decide⟩ ?_
    refine rr_aload_n dX10_readsLoan_15 rfl rfl ?_
    refine rr_getR cf_X10 (j := 12) (by decide) dX10_readsLoan_16 rfl q_766 hh (fun r3 hh => ?_)
    refine rr_iconst dX10_readsLoan_19 rfl ⟨by decide, by decide⟩ ?_
    refine rr_iald dX10_readsLoan_20 rfl hh (fun n4 hh => ?_)
    refine rr_callW (bc' := 0) (bs' := 0) (q := (some x0)) (av := [vI 1, vI 0, vI 3, vI n4]) (st := []) mf_X10_number dX10_readsLoan_21 rfl q_878 q_880 qs_31 ⟨_, _, rfl⟩ rfl (by decide) (Nat.le_refl _) (Nat.le_refl _) hh (rr_kI fun n6 h5 hh => ?_)
    refine rr_if_ne (tgt := 29) dX10_readsLoan_24 rfl (by decide) (fun hc24 => ?_) (fun hc24 => ?_)
    · have hh := hh.1 hc24
      refine rr_aload_n dX10_readsLoan_29 rfl rfl ?_
      refine rr_getI cf_X10 (j := 11) (by decide) dX10_readsLoan_30 rfl q_765 hh (fun n7 hh => ?_)
      refine rr_if_eq (tgt := 45) dX10_readsLoan_33 rfl (by decide) (fun hc33 => ?_) (fun hc33 => ?_)
      · have hh := hh.1 hc33
        refine rr_iconst dX10_readsLoan_45 rfl ⟨by decide, by decide⟩ ?_
        refine rr_callS (bc' := 0) (bs' := 0) (av := [vI 0]) (st := []) mf_X10_loanAt dX10_readsLoan_46 rfl q_918 q_919 rfl (by decide) (Nat.le_refl _) (Nat.le_refl _) hh (rr_kI fun n9 h8 hh => ?_)
        refine rr_istore_n (ls' := [some (vR (some x0)), some (vI n9), none, none]) dX10_readsLoan_49 rfl (by decide) (fun _ z => by cases z) rfl ?_
        refine rr_aload_n dX10_readsLoan_50 rfl rfl ?_
        refine rr_bipush dX10_readsLoan_51 rfl ⟨by decide, by decide⟩ rfl ?_
        refine rr_iload_n dX10_readsLoan_53 rfl rfl ?_
        refine rr_iconst dX10_readsLoan_54 rfl ⟨by decide, by decide⟩ ?_
        obtain ⟨hz10, hh⟩ := hh
        refine rr_iadd dX10_readsLoan_55 rfl hz10 ?_
        refine rr_callW (bc' := 0) (bs' := 0) (q := (some x0)) (av := [vI 8, vI (n9 + 4)]) (st := []) mf_X10_rowOf dX10_readsLoan_56 rfl q_921 q_923 qs_40 ⟨_, _, rfl⟩ rfl (by decide) (Nat.le_refl _) (Nat.le_refl _) hh (rr_kI fun n12 h11 hh => ?_)
        refine rr_istore_n (ls' := [some (vR (some x0)), some (vI n9), some (vI n12), none]) dX10_readsLoan_59 rfl (by decide) (fun _ z => by cases z) rfl ?_
        refine rr_iload_n dX10_readsLoan_60 rfl rfl ?_
        refine rr_if_ne (tgt := 66) dX10_readsLoan_61 rfl (by decide) (fun hc61 => ?_) (fun hc61 => ?_)
        · have hh := hh.1 hc61
          refine rr_iconst dX10_readsLoan_66 rfl ⟨by decide, by decide⟩ ?_
          refine rr_istore_n (ls' := [some (vR (some x0)), some (vI n9), some (vI n12), some (vI 0)]) dX10_readsLoan_67 rfl (by decide) (fun _ z => by cases z) rfl ?_
          refine rr_aload_n dX10_readsLoan_68 rfl rfl ?_
          refine rr_bipush dX10_readsLoan_69 rfl ⟨by decide, by decide⟩ rfl ?_
          refine rr_callW (bc' := 0) (bs' := 0) (q := (some x0)) (av := [vI 45]) (st := []) mf_X10_isSign dX10_readsLoan_71 rfl q_895 q_897 qs_35 ⟨_, _, rfl⟩ rfl (by decide) (Nat.le_refl _) (Nat.le_refl _) hh (rr_kI fun n14 h13 hh => ?_)
          refine rr_if_eq (tgt := 84) dX10_readsLoan_74 rfl (by decide) (fun hc74 => ?_) (fun hc74 => ?_)
          · have hh := hh.1 hc74
            refine rr_aload_n dX10_readsLoan_84 rfl rfl ?_
            refine rr_bipush dX10_readsLoan_85 rfl ⟨by decide, by decide⟩ rfl ?_
            refine rr_iload_n dX10_readsLoan_87 rfl rfl ?_
            refine rr_bipush dX10_readsLoan_88 rfl ⟨by decide, by decide⟩ rfl ?_
            obtain ⟨hz15, hh⟩ := hh
            refine rr_iadd dX10_readsLoan_90 rfl hz15 ?_
            refine rr_callW (bc' := 0) (bs' := 0) (q := (some x0)) (av := [vI 10, vI (n9 + 12)]) (st := []) mf_X10_rowOf dX10_readsLoan_91 rfl q_921 q_923 qs_40 ⟨_, _, rfl⟩ rfl (by decide) (Nat.le_refl _) (Nat.le_refl _) hh (rr_kI fun n17 h16 hh => ?_)
            refine rr_istore_n (ls' := [some (vR (some x0)), some (vI n9), some (vI n12), some (vI n17)]) dX10_readsLoan_94 rfl (by decide) (fun _ z => by cases z) rfl ?_
            refine rr_iload_n dX10_readsLoan_95 rfl rfl ?_
            refine rr_if_ne (tgt := 101) dX10_readsLoan_96 rfl (by decide) (fun hc96 => ?_) (fun hc96 => ?_)
            · have hh := hh.1 hc96
              exact hh
            · have hh := hh.2 hc96
              refine rr_iconst dX10_readsLoan_99 rfl ⟨by decide, by decide⟩ ?_
              exact rr_zret dX10_readsLoan_100 rfl rfl hh
          · have hh := hh.2 hc74
            refine rr_aload_n dX10_readsLoan_77 rfl rfl ?_
            refine rr_callW (bc' := 0) (bs' := 0) (q := (some x0)) (av := []) (st := []) mf_X10_nextToken dX10_readsLoan_78 rfl q_852 q_854 qs_27 ⟨_, _, rfl⟩ rfl (by decide) (Nat.le_refl _) (Nat.le_refl _) hh (rr_kV fun h19 hh => ?_)
            refine rr_goto (pc' := 101) dX10_readsLoan_81 (by decide) ?_
            exact hh
        · have hh := hh.2 hc61
          refine rr_iconst dX10_readsLoan_64 rfl ⟨by decide, by decide⟩ ?_
          exact rr_zret dX10_readsLoan_65 rfl rfl hh
      · have hh := hh.2 hc33
        refine rr_aload_n dX10_readsLoan_36 rfl rfl ?_
        refine rr_getR cf_X10 (j := 0) (by decide) dX10_readsLoan_37 rfl q_754 hh (fun r23 hh => ?_)
        refine rr_iconst dX10_readsLoan_40 rfl ⟨by decide, by decide⟩ ?_
        refine rr_iald dX10_readsLoan_41 rfl hh (fun n24 hh => ?_)
        refine rr_goto (pc' := 46) dX10_readsLoan_42 (by decide) ?_
        refine rr_callS (bc' := 0) (bs' := 0) (av := [vI n24]) (st := []) mf_X10_loanAt dX10_readsLoan_46 rfl q_918 q_919 rfl (by decide) (Nat.le_refl _) (Nat.le_refl _) hh (rr_kI fun n26 h25 hh => ?_)
        refine rr_istore_n (ls' := [some (vR (some x0)), some (vI n26), none, none]) dX10_readsLoan_49 rfl (by decide) (fun _ z => by cases z) rfl ?_
        refine rr_aload_n dX10_readsLoan_50 rfl rfl ?_
        refine rr_bipush dX10_readsLoan_51 rfl ⟨by decide, by decide⟩ rfl ?_
        refine rr_iload_n dX10_readsLoan_53 rfl rfl ?_
        refine rr_iconst dX10_readsLoan_54 rfl ⟨by decide, by decide⟩ ?_
        obtain ⟨hz27, hh⟩ := hh
        refine rr_iadd dX10_readsLoan_55 rfl hz27 ?_
        refine rr_callW (bc' := 0) (bs' := 0) (q := (some x0)) (av := [vI 8, vI (n26 + 4)]) (st := []) mf_X10_rowOf dX10_readsLoan_56 rfl q_921 q_923 qs_40 ⟨_, _, rfl⟩ rfl (by decide) (Nat.le_refl _) (Nat.le_refl _) hh (rr_kI fun n29 h28 hh => ?_)
        refine rr_istore_n (ls' := [some (vR (some x0)), some (vI n26), some (vI n29), none]) dX10_readsLoan_59 rfl (by decide) (fun _ z => by cases z) rfl ?_
        refine rr_iload_n dX10_readsLoan_60 rfl rfl ?_
        refine rr_if_ne (tgt := 66) dX10_readsLoan_61 rfl (by decide) (fun hc61 => ?_) (fun hc61 => ?_)
        · have hh := hh.1 hc61
          refine rr_iconst dX10_readsLoan_66 rfl ⟨by decide, by decide⟩ ?_
          refine rr_istore_n (ls' := [some (vR (some x0)), some (vI n26), some (vI n29), some (vI 0)]) dX10_readsLoan_67 rfl (by decide) (fun _ z => by cases z) rfl ?_
          refine rr_aload_n dX10_readsLoan_68 rfl rfl ?_
          refine rr_bipush dX10_readsLoan_69 rfl ⟨by decide, by decide⟩ rfl ?_
          refine rr_callW (bc' := 0) (bs' := 0) (q := (some x0)) (av := [vI 45]) (st := []) mf_X10_isSign dX10_readsLoan_71 rfl q_895 q_897 qs_35 ⟨_, _, rfl⟩ rfl (by decide) (Nat.le_refl _) (Nat.le_refl _) hh (rr_kI fun n31 h30 hh => ?_)
          refine rr_if_eq (tgt := 84) dX10_readsLoan_74 rfl (by decide) (fun hc74 => ?_) (fun hc74 => ?_)
          · have hh := hh.1 hc74
            refine rr_aload_n dX10_readsLoan_84 rfl rfl ?_
            refine rr_bipush dX10_readsLoan_85 rfl ⟨by decide, by decide⟩ rfl ?_
            refine rr_iload_n dX10_readsLoan_87 rfl rfl ?_
            refine rr_bipush dX10_readsLoan_88 rfl ⟨by decide, by decide⟩ rfl ?_
            obtain ⟨hz32, hh⟩ := hh
            refine rr_iadd dX10_readsLoan_90 rfl hz32 ?_
            refine rr_callW (bc' := 0) (bs' := 0) (q := (some x0)) (av := [vI 10, vI (n26 + 12)]) (st := []) mf_X10_rowOf dX10_readsLoan_91 rfl q_921 q_923 qs_40 ⟨_, _, rfl⟩ rfl (by decide) (Nat.le_refl _) (Nat.le_refl _) hh (rr_kI fun n34 h33 hh => ?_)
            refine rr_istore_n (ls' := [some (vR (some x0)), some (vI n26), some (vI n29), some (vI n34)]) dX10_readsLoan_94 rfl (by decide) (fun _ z => by cases z) rfl ?_
            refine rr_iload_n dX10_readsLoan_95 rfl rfl ?_
            refine rr_if_ne (tgt := 101) dX10_readsLoan_96 rfl (by decide) (fun hc96 => ?_) (fun hc96 => ?_)
            · have hh := hh.1 hc96
              exact hh
            · have hh := hh.2 hc96
              refine rr_iconst dX10_readsLoan_99 rfl ⟨by decide, by decide⟩ ?_
              exact rr_zret dX10_readsLoan_100 rfl rfl hh
          · have hh := hh.2 hc74
            refine rr_aload_n dX10_readsLoan_77 rfl rfl ?_
            refine rr_callW (bc' := 0) (bs' := 0) (q := (some x0)) (av := []) (st := []) mf_X10_nextToken dX10_readsLoan_78 rfl q_852 q_854 qs_27 ⟨_, _, rfl⟩ rfl (by decide) (Nat.le_refl _) (Nat.le_refl _) hh (rr_kV fun h36 hh => ?_)
            refine rr_goto (pc' := 101) dX10_readsLoan_81 (by decide) ?_
            exact hh
        · have hh := hh.2 hc61
          refine rr_iconst dX10_readsLoan_64 rfl ⟨by decide, by decide⟩ ?_
          exact rr_zret dX10_readsLoan_65 rfl rfl hh
    · have hh := hh.2 hc24
      refine rr_iconst dX10_readsLoan_27 rfl ⟨by decide, by decide⟩ ?_
      exact rr_zret dX10_readsLoan_28 rfl rfl hh
set_option maxRecDepth 100000 in
theorem B_X10_readsLoan_101 {d : Nat} {h : AbH} {K : Option AbV → AbH → Prop} {x0 : Nat} {x1 : Int} {x2 : Int} {x3 : Int} {bc bs : Nat} (hh : wpGI h (some x0) 9 9 (fun n1 => in32 (n1 + 1) ∧ wpP h (some x0) 9 9 (vI (n1 + 1)) (fun h3 => wpGI h3 (some x0) 9 11 (fun n4 => ((n4 = 0 → K (some (vI 1)) h3) ∧ (¬ (n4 = 0) → wpGR h3 (some x0) 9 0 (fun r5 => in32 (x1 + 0) ∧ wpGR h3 (some x0) 9 12 (fun r7 => wpLI h3 r7 0 (fun n8 => wpSI h3 r5 (x1 + 0) n8 (fun h9 => wpGR h9 (some x0) 9 0 (fun r10 => in32 (x1 + 1) ∧ wpGR h9 (some x0) 9 12 (fun r12 => wpLI h9 r12 1 (fun n13 => wpSI h9 r10 (x1 + 1) n13 (fun h14 => wpGR h14 (some x0) 9 0 (fun r15 => in32 (x1 + 2) ∧ wpSI h14 r15 (x1 + 2) x2 (fun h17 => wpGR h17 (some x0) 9 0 (fun r18 => in32 (x1 + 3) ∧ wpSI h17 r18 (x1 + 3) x3 (fun h20 => wpGR h20 (some x0) 9 0 (fun r21 => wpLI h20 r21 1 (fun n22 => in32 (n22 + 1) ∧ wpSI h20 r21 1 (n22 + 1) (fun h24 => K (some (vI 1)) h24))))))))))))))))))))) : Vx (d + 1) m_X10_readsLoan bc bs 101 [some (vR (some x0)), some (vI x1), some (vI x2), some (vI x3)] [] h K := by
  refine rr_aload_n dX10_readsLoan_101 rfl rfl ?_
  refine rr_dup dX10_readsLoan_102 rfl rfl ?_
  refine rr_getI cf_X10 (j := 9) (by decide) dX10_readsLoan_103 rfl q_763 hh (fun n1 hh => ?_)
  refine rr_iconst dX10_readsLoan_106 rfl ⟨by decide, by decide⟩ ?_
  obtain ⟨hz2, hh⟩ := hh
  refine rr_iadd dX10_readsLoan_107 rfl hz2 ?_
  refine rr_put cf_X10 (j := 9) (by decide) dX10_readsLoan_108 rfl q_763 rfl (fty := .int) (by decide +kernel) rfl rfl hh (fun h3 hh => ?_)
  refine rr_aload_n dX10_readsLoan_111 rfl rfl ?_
  refine rr_getI cf_X10 (j := 11) (by decide) dX10_readsLoan_112 rfl q_765 hh (fun n4 hh => ?_)
  refine rr_if_eq (tgt := 174) dX10_readsLoan_115 rfl (by decide) (fun hc115 => ?_) (fun hc115 => ?_)
  · have hh := hh.1 hc115
    refine rr_iconst dX10_readsLoan_174 rfl ⟨by decide, by decide⟩ ?_
    exact rr_zret dX10_readsLoan_175 rfl rfl hh
  · have hh := hh.2 hc115
    refine rr_aload_n dX10_readsLoan_118 rfl rfl ?_
    refine rr_getR cf_X10 (j := 0) (by decide) dX10_readsLoan_119 rfl q_754 hh (fun r5 hh => ?_)
    refine rr_iload_n dX10_readsLoan_122 rfl rfl ?_
    refine rr_iconst dX10_readsLoan_123 rfl ⟨by decide, by decide⟩ ?_
    obtain ⟨hz6, hh⟩ := hh
    refine rr_iadd dX10_readsLoan_124 rfl hz6 ?_
    refine rr_aload_n dX10_readsLoan_125 rfl rfl ?_
    refine rr_getR cf_X10 (j := 12) (by decide) dX10_readsLoan_126 rfl q_766 hh (fun r7 hh => ?_)
    refine rr_iconst dX10_readsLoan_129 rfl ⟨by decide, by decide⟩ ?_
    refine rr_iald dX10_readsLoan_130 rfl hh (fun n8 hh => ?_)
    refine rr_iast dX10_readsLoan_131 rfl hh (fun h9 hh => ?_)
    refine rr_aload_n dX10_readsLoan_132 rfl rfl ?_
    refine rr_getR cf_X10 (j := 0) (by decide) dX10_readsLoan_133 rfl q_754 hh (fun r10 hh => ?_)
    refine rr_iload_n dX10_readsLoan_136 rfl rfl ?_
    refine rr_iconst dX10_readsLoan_137 rfl ⟨by decide, by decide⟩ ?_
    obtain ⟨hz11, hh⟩ := hh
    refine rr_iadd dX10_readsLoan_138 rfl hz11 ?_
    refine rr_aload_n dX10_readsLoan_139 rfl rfl ?_
    refine rr_getR cf_X10 (j := 12) (by decide) dX10_readsLoan_140 rfl q_766 hh (fun r12 hh => ?_)
    refine rr_iconst dX10_readsLoan_143 rfl ⟨by decide, by decide⟩ ?_
    refine rr_iald dX10_readsLoan_144 rfl hh (fun n13 hh => ?_)
    refine rr_iast dX10_readsLoan_145 rfl hh (fun h14 hh => ?_)
    refine rr_aload_n dX10_readsLoan_146 rfl rfl ?_
    refine rr_getR cf_X10 (j := 0) (by decide) dX10_readsLoan_147 rfl q_754 hh (fun r15 hh => ?_)
    refine rr_iload_n dX10_readsLoan_150 rfl rfl ?_
    refine rr_iconst dX10_readsLoan_151 rfl ⟨by decide, by decide⟩ ?_
    obtain ⟨hz16, hh⟩ := hh
    refine rr_iadd dX10_readsLoan_152 rfl hz16 ?_
    refine rr_iload_n dX10_readsLoan_153 rfl rfl ?_
    refine rr_iast dX10_readsLoan_154 rfl hh (fun h17 hh => ?_)
    refine rr_aload_n dX10_readsLoan_155 rfl rfl ?_
    refine rr_getR cf_X10 (j := 0) (by decide) dX10_readsLoan_156 rfl q_754 hh (fun r18 hh => ?_)
    refine rr_iload_n dX10_readsLoan_159 rfl rfl ?_
    refine rr_iconst dX10_readsLoan_160 rfl ⟨by decide, by decide⟩ ?_
    obtain ⟨hz19, hh⟩ := hh
    refine rr_iadd dX10_readsLoan_161 rfl hz19 ?_
    refine rr_iload_n dX10_readsLoan_162 rfl rfl ?_
    refine rr_iast dX10_readsLoan_163 rfl hh (fun h20 hh => ?_)
    refine rr_aload_n dX10_readsLoan_164 rfl rfl ?_
    refine rr_getR cf_X10 (j := 0) (by decide) dX10_readsLoan_165 rfl q_754 hh (fun r21 hh => ?_)
    refine rr_iconst dX10_readsLoan_168 rfl ⟨by decide, by decide⟩ ?_
    refine rr_dup2 dX10_readsLoan_169 rfl rfl (ab_catR _) ?_
    refine rr_iald dX10_readsLoan_170 rfl hh (fun n22 hh => ?_)
    refine rr_iconst dX10_readsLoan_171 rfl ⟨by decide, by decide⟩ ?_
    obtain ⟨hz23, hh⟩ := hh
    refine rr_iadd dX10_readsLoan_172 rfl hz23 ?_
    refine rr_iast dX10_readsLoan_173 rfl hh (fun h24 hh => ?_)
    refine rr_iconst dX10_readsLoan_174 rfl ⟨by decide, by decide⟩ ?_
    exact rr_zret dX10_readsLoan_175 rfl rfl hh
theorem dX10_readsAll_0 : decode cX10_readsAll 0 = .ok (.iconst 0, 1) := by decide +kernel
theorem dX10_readsAll_1 : decode cX10_readsAll 1 = .ok (.istore_n 1, 1) := by decide +kernel
theorem dX10_readsAll_2 : decode cX10_readsAll 2 = .ok (.iload_n 1, 1) := by decide +kernel
theorem dX10_readsAll_3 : decode cX10_readsAll 3 = .ok (.sipush 400, 3) := by decide +kernel
theorem dX10_readsAll_6 : decode cX10_readsAll 6 = .ok (.if_icmp .ge 16, 3) := by decide +kernel
theorem dX10_readsAll_9 : decode cX10_readsAll 9 = .ok (.aload_n 0, 1) := by decide +kernel
theorem dX10_readsAll_10 : decode cX10_readsAll 10 = .ok (.getfield 20, 3) := by decide +kernel
theorem dX10_readsAll_13 : decode cX10_readsAll 13 = .ok (.iload_n 1, 1) := by decide +kernel
theorem dX10_readsAll_14 : decode cX10_readsAll 14 = .ok (.iconst 0, 1) := by decide +kernel
theorem dX10_readsAll_15 : decode cX10_readsAll 15 = .ok (.bastore, 1) := by decide +kernel
theorem dX10_readsAll_16 : decode cX10_readsAll 16 = .ok (.iinc 1 1, 3) := by decide +kernel
theorem dX10_readsAll_19 : decode cX10_readsAll 19 = .ok (.goto (-17), 3) := by decide +kernel
theorem dX10_readsAll_22 : decode cX10_readsAll 22 = .ok (.aload_n 0, 1) := by decide +kernel
theorem dX10_readsAll_23 : decode cX10_readsAll 23 = .ok (.iconst 0, 1) := by decide +kernel
theorem dX10_readsAll_24 : decode cX10_readsAll 24 = .ok (.putfield 117, 3) := by decide +kernel
theorem dX10_readsAll_27 : decode cX10_readsAll 27 = .ok (.aload_n 0, 1) := by decide +kernel
theorem dX10_readsAll_28 : decode cX10_readsAll 28 = .ok (.iconst 0, 1) := by decide +kernel
theorem dX10_readsAll_29 : decode cX10_readsAll 29 = .ok (.putfield 135, 3) := by decide +kernel
theorem dX10_readsAll_32 : decode cX10_readsAll 32 = .ok (.aload_n 0, 1) := by decide +kernel
theorem dX10_readsAll_33 : decode cX10_readsAll 33 = .ok (.getfield 120, 3) := by decide +kernel
theorem dX10_readsAll_36 : decode cX10_readsAll 36 = .ok (.ifCond .eq 40, 3) := by decide +kernel
theorem dX10_readsAll_39 : decode cX10_readsAll 39 = .ok (.aload_n 0, 1) := by decide +kernel
theorem dX10_readsAll_40 : decode cX10_readsAll 40 = .ok (.getfield 7, 3) := by decide +kernel
theorem dX10_readsAll_43 : decode cX10_readsAll 43 = .ok (.iconst 0, 1) := by decide +kernel
theorem dX10_readsAll_44 : decode cX10_readsAll 44 = .ok (.iconst 0, 1) := by decide +kernel
theorem dX10_readsAll_45 : decode cX10_readsAll 45 = .ok (.iastore, 1) := by decide +kernel
theorem dX10_readsAll_46 : decode cX10_readsAll 46 = .ok (.aload_n 0, 1) := by decide +kernel
theorem dX10_readsAll_47 : decode cX10_readsAll 47 = .ok (.getfield 7, 3) := by decide +kernel
theorem dX10_readsAll_50 : decode cX10_readsAll 50 = .ok (.iconst 1, 1) := by decide +kernel
theorem dX10_readsAll_51 : decode cX10_readsAll 51 = .ok (.iconst 0, 1) := by decide +kernel
theorem dX10_readsAll_52 : decode cX10_readsAll 52 = .ok (.iastore, 1) := by decide +kernel
theorem dX10_readsAll_53 : decode cX10_readsAll 53 = .ok (.bipush 98, 2) := by decide +kernel
theorem dX10_readsAll_55 : decode cX10_readsAll 55 = .ok (.istore_n 1, 1) := by decide +kernel
theorem dX10_readsAll_56 : decode cX10_readsAll 56 = .ok (.iload_n 1, 1) := by decide +kernel
theorem dX10_readsAll_57 : decode cX10_readsAll 57 = .ok (.sipush 130, 3) := by decide +kernel
theorem dX10_readsAll_60 : decode cX10_readsAll 60 = .ok (.if_icmp .ge 16, 3) := by decide +kernel
theorem dX10_readsAll_63 : decode cX10_readsAll 63 = .ok (.aload_n 0, 1) := by decide +kernel
theorem dX10_readsAll_64 : decode cX10_readsAll 64 = .ok (.getfield 7, 3) := by decide +kernel
theorem dX10_readsAll_67 : decode cX10_readsAll 67 = .ok (.iload_n 1, 1) := by decide +kernel
theorem dX10_readsAll_68 : decode cX10_readsAll 68 = .ok (.iconst 0, 1) := by decide +kernel
theorem dX10_readsAll_69 : decode cX10_readsAll 69 = .ok (.iastore, 1) := by decide +kernel
theorem dX10_readsAll_70 : decode cX10_readsAll 70 = .ok (.iinc 1 1, 3) := by decide +kernel
theorem dX10_readsAll_73 : decode cX10_readsAll 73 = .ok (.goto (-17), 3) := by decide +kernel
theorem dX10_readsAll_76 : decode cX10_readsAll 76 = .ok (.iconst 1, 1) := by decide +kernel
theorem dX10_readsAll_77 : decode cX10_readsAll 77 = .ok (.ireturn, 1) := by decide +kernel
set_option maxRecDepth 100000 in
theorem B_X10_readsAll_0 {d : Nat} {h : AbH} {K : Option AbV → AbH → Prop} {x0 : Nat} (hh : Vx (d + 1) m_X10_readsAll 0 0 2 [some (vR (some x0)), some (vI 0)] [] h K) : Vx (d + 1) m_X10_readsAll 0 0 0 [some (vR (some x0))] [] h K := by
  refine Vx.pad 1 [some (vR (some x0)), none] rfl ?_
  refine rr_iconst dX10_readsAll_0 rfl ⟨by decide, by decide⟩ ?_
  refine rr_istore_n (ls' := [some (vR (some x0)), some (vI 0)]) dX10_readsAll_1 rfl (by decide) (fun _ z => by cases z) rfl ?_
  exact hh
set_option maxRecDepth 100000 in
theorem B_X10_readsAll_2 {d : Nat} {h : AbH} {K : Option AbV → AbH → Prop} {x0 : Nat} {x1 : Int} {bc bs : Nat} (hh : ((400 ≤ x1 → wpP h (some x0) 9 8 (vI 0) (fun h1 => wpP h1 (some x0) 9 9 (vI 0) (fun h2 => wpGI h2 (some x0) 9 11 (fun n3 => ((n3 = 0 → K (some (vI 1)) h2) ∧ (¬ (n3 = 0) → wpGR h2 (some x0) 9 0 (fun r4 => wpSI h2 r4 0 0 (fun h5 => wpGR h5 (some x0) 9 0 (fun r6 => wpSI h5 r6 1 0 (fun h7 => Vx (d + 1) m_X10_readsAll bc bs 56 [some (vR (some x0)), some (vI 98)] [] h7 K)))))))))) ∧ (¬ (400 ≤ x1) → wpGR h (some x0) 9 7 (fun r8 => wpSZ h r8 x1 0 (fun h9 => in32 (x1 + 1) ∧ Vx (d + 1) m_X10_readsAll bc bs 2 [some (vR (some x0)), some (vI (x1 + 1))] [] h9 K))))) : Vx (d + 1) m_X10_readsAll bc bs 2 [some (vR (some x0)), some (vI x1)] [] h K := by
  refine rr_iload_n dX10_readsAll_2 rfl rfl ?_
  refine rr_sipush dX10_readsAll_3 rfl ⟨by decide, by decide⟩ rfl ?_
  refine rr_icmp_ge (tgt := 22) dX10_readsAll_6 rfl (by decide) (fun hc6 => ?_) (fun hc6 => ?_)
  · have hh := hh.1 hc6
    refine rr_aload_n dX10_readsAll_22 rfl rfl ?_
    refine rr_iconst dX10_readsAll_23 rfl ⟨by decide, by decide⟩ ?_
    refine rr_put cf_X10 (j := 8) (by decide) dX10_readsAll_24 rfl q_762 rfl (fty := .int) (by decide +kernel) rfl rfl hh (fun h1 hh => ?_)
    refine rr_aload_n dX10_readsAll_27 rfl rfl ?_
    refine rr_iconst dX10_readsAll_28 rfl ⟨by decide, by decide⟩ ?_
    refine rr_put cf_X10 (j := 9) (by decide) dX10_readsAll_29 rfl q_763 rfl (fty := .int) (by decide +kernel) rfl rfl hh (fun h2 hh => ?_)
    refine rr_aload_n dX10_readsAll_32 rfl rfl ?_
    refine rr_getI cf_X10 (j := 11) (by decide) dX10_readsAll_33 rfl q_765 hh (fun n3 hh => ?_)
    refine rr_if_eq (tgt := 76) dX10_readsAll_36 rfl (by decide) (fun hc36 => ?_) (fun hc36 => ?_)
    · have hh := hh.1 hc36
      refine rr_iconst dX10_readsAll_76 rfl ⟨by decide, by decide⟩ ?_
      exact rr_zret dX10_readsAll_77 rfl rfl hh
    · have hh := hh.2 hc36
      refine rr_aload_n dX10_readsAll_39 rfl rfl ?_
      refine rr_getR cf_X10 (j := 0) (by decide) dX10_readsAll_40 rfl q_754 hh (fun r4 hh => ?_)
      refine rr_iconst dX10_readsAll_43 rfl ⟨by decide, by decide⟩ ?_
      refine rr_iconst dX10_readsAll_44 rfl ⟨by decide, by decide⟩ ?_
      refine rr_iast dX10_readsAll_45 rfl hh (fun h5 hh => ?_)
      refine rr_aload_n dX10_readsAll_46 rfl rfl ?_
      refine rr_getR cf_X10 (j := 0) (by decide) dX10_readsAll_47 rfl q_754 hh (fun r6 hh => ?_)
      refine rr_iconst dX10_readsAll_50 rfl ⟨by decide, by decide⟩ ?_
      refine rr_iconst dX10_readsAll_51 rfl ⟨by decide, by decide⟩ ?_
      refine rr_iast dX10_readsAll_52 rfl hh (fun h7 hh => ?_)
      refine rr_bipush dX10_readsAll_53 rfl ⟨by decide, by decide⟩ rfl ?_
      refine rr_istore_n (ls' := [some (vR (some x0)), some (vI 98)]) dX10_readsAll_55 rfl (by decide) (fun _ z => by cases z) rfl ?_
      exact hh
  · have hh := hh.2 hc6
    refine rr_aload_n dX10_readsAll_9 rfl rfl ?_
    refine rr_getR cf_X10 (j := 7) (by decide) dX10_readsAll_10 rfl q_761 hh (fun r8 hh => ?_)
    refine rr_iload_n dX10_readsAll_13 rfl rfl ?_
    refine rr_iconst dX10_readsAll_14 rfl ⟨by decide, by decide⟩ ?_
    refine rr_zast dX10_readsAll_15 rfl hh (fun h9 hh => ?_)
    obtain ⟨hz10, hh⟩ := hh
    refine rr_iinc (ls' := [some (vR (some x0)), some (vI (x1 + 1))]) dX10_readsAll_16 rfl rfl (by decide) (fun _ z => by cases z) hz10 rfl ?_
    refine rr_goto (pc' := 2) dX10_readsAll_19 (by decide) ?_
    exact hh
set_option maxRecDepth 100000 in
theorem B_X10_readsAll_56 {d : Nat} {h : AbH} {K : Option AbV → AbH → Prop} {x0 : Nat} {x1 : Int} {bc bs : Nat} (hh : ((130 ≤ x1 → K (some (vI 1)) h) ∧ (¬ (130 ≤ x1) → wpGR h (some x0) 9 0 (fun r1 => wpSI h r1 x1 0 (fun h2 => in32 (x1 + 1) ∧ Vx (d + 1) m_X10_readsAll bc bs 56 [some (vR (some x0)), some (vI (x1 + 1))] [] h2 K))))) : Vx (d + 1) m_X10_readsAll bc bs 56 [some (vR (some x0)), some (vI x1)] [] h K := by
  refine rr_iload_n dX10_readsAll_56 rfl rfl ?_
  refine rr_sipush dX10_readsAll_57 rfl ⟨by decide, by decide⟩ rfl ?_
  refine rr_icmp_ge (tgt := 76) dX10_readsAll_60 rfl (by decide) (fun hc60 => ?_) (fun hc60 => ?_)
  · have hh := hh.1 hc60
    refine rr_iconst dX10_readsAll_76 rfl ⟨by decide, by decide⟩ ?_
    exact rr_zret dX10_readsAll_77 rfl rfl hh
  · have hh := hh.2 hc60
    refine rr_aload_n dX10_readsAll_63 rfl rfl ?_
    refine rr_getR cf_X10 (j := 0) (by decide) dX10_readsAll_64 rfl q_754 hh (fun r1 hh => ?_)
    refine rr_iload_n dX10_readsAll_67 rfl rfl ?_
    refine rr_iconst dX10_readsAll_68 rfl ⟨by decide, by decide⟩ ?_
    refine rr_iast dX10_readsAll_69 rfl hh (fun h2 hh => ?_)
    obtain ⟨hz3, hh⟩ := hh
    refine rr_iinc (ls' := [some (vR (some x0)), some (vI (x1 + 1))]) dX10_readsAll_70 rfl rfl (by decide) (fun _ z => by cases z) hz3 rfl ?_
    refine rr_goto (pc' := 56) dX10_readsAll_73 (by decide) ?_
    exact hh
theorem dX10_readsClause_0 : decode cX10_readsClause 0 = .ok (.aload_n 0, 1) := by decide +kernel
theorem dX10_readsClause_1 : decode cX10_readsClause 1 = .ok (.invokevirtual 138, 3) := by decide +kernel
theorem dX10_readsClause_4 : decode cX10_readsClause 4 = .ok (.istore_n 1, 1) := by decide +kernel
theorem dX10_readsClause_5 : decode cX10_readsClause 5 = .ok (.iload_n 1, 1) := by decide +kernel
theorem dX10_readsClause_6 : decode cX10_readsClause 6 = .ok (.iconst (-1), 1) := by decide +kernel
theorem dX10_readsClause_7 : decode cX10_readsClause 7 = .ok (.if_icmp .eq 31, 3) := by decide +kernel
theorem dX10_readsClause_10 : decode cX10_readsClause 10 = .ok (.iload_n 1, 1) := by decide +kernel
theorem dX10_readsClause_11 : decode cX10_readsClause 11 = .ok (.iconst 1, 1) := by decide +kernel
theorem dX10_readsClause_12 : decode cX10_readsClause 12 = .ok (.if_icmp .ne 12, 3) := by decide +kernel
theorem dX10_readsClause_15 : decode cX10_readsClause 15 = .ok (.aload_n 0, 1) := by decide +kernel
theorem dX10_readsClause_16 : decode cX10_readsClause 16 = .ok (.getfield 117, 3) := by decide +kernel
theorem dX10_readsClause_19 : decode cX10_readsClause 19 = .ok (.bipush 16, 2) := by decide +kernel
theorem dX10_readsClause_21 : decode cX10_readsClause 21 = .ok (.if_icmp .eq 17, 3) := by decide +kernel
theorem dX10_readsClause_24 : decode cX10_readsClause 24 = .ok (.iload_n 1, 1) := by decide +kernel
theorem dX10_readsClause_25 : decode cX10_readsClause 25 = .ok (.iconst 3, 1) := by decide +kernel
theorem dX10_readsClause_26 : decode cX10_readsClause 26 = .ok (.if_icmp .ne 14, 3) := by decide +kernel
theorem dX10_readsClause_29 : decode cX10_readsClause 29 = .ok (.aload_n 0, 1) := by decide +kernel
theorem dX10_readsClause_30 : decode cX10_readsClause 30 = .ok (.getfield 135, 3) := by decide +kernel
theorem dX10_readsClause_33 : decode cX10_readsClause 33 = .ok (.bipush 12, 2) := by decide +kernel
theorem dX10_readsClause_35 : decode cX10_readsClause 35 = .ok (.if_icmp .ne 5, 3) := by decide +kernel
theorem dX10_readsClause_38 : decode cX10_readsClause 38 = .ok (.iconst 0, 1) := by decide +kernel
theorem dX10_readsClause_39 : decode cX10_readsClause 39 = .ok (.ireturn, 1) := by decide +kernel
theorem dX10_readsClause_40 : decode cX10_readsClause 40 = .ok (.aload_n 0, 1) := by decide +kernel
theorem dX10_readsClause_41 : decode cX10_readsClause 41 = .ok (.invokevirtual 96, 3) := by decide +kernel
theorem dX10_readsClause_44 : decode cX10_readsClause 44 = .ok (.iload_n 1, 1) := by decide +kernel
theorem dX10_readsClause_45 : decode cX10_readsClause 45 = .ok (.ifCond .ne 10, 3) := by decide +kernel
theorem dX10_readsClause_48 : decode cX10_readsClause 48 = .ok (.aload_n 0, 1) := by decide +kernel
theorem dX10_readsClause_49 : decode cX10_readsClause 49 = .ok (.invokevirtual 141, 3) := by decide +kernel
theorem dX10_readsClause_52 : decode cX10_readsClause 52 = .ok (.goto 31, 3) := by decide +kernel
theorem dX10_readsClause_55 : decode cX10_readsClause 55 = .ok (.iload_n 1, 1) := by decide +kernel
theorem dX10_readsClause_56 : decode cX10_readsClause 56 = .ok (.iconst 1, 1) := by decide +kernel
theorem dX10_readsClause_57 : decode cX10_readsClause 57 = .ok (.if_icmp .ne 10, 3) := by decide +kernel
theorem dX10_readsClause_60 : decode cX10_readsClause 60 = .ok (.aload_n 0, 1) := by decide +kernel
theorem dX10_readsClause_61 : decode cX10_readsClause 61 = .ok (.invokevirtual 144, 3) := by decide +kernel
theorem dX10_readsClause_64 : decode cX10_readsClause 64 = .ok (.goto 19, 3) := by decide +kernel
theorem dX10_readsClause_67 : decode cX10_readsClause 67 = .ok (.iload_n 1, 1) := by decide +kernel
theorem dX10_readsClause_68 : decode cX10_readsClause 68 = .ok (.iconst 2, 1) := by decide +kernel
theorem dX10_readsClause_69 : decode cX10_readsClause 69 = .ok (.if_icmp .ne 10, 3) := by decide +kernel
theorem dX10_readsClause_72 : decode cX10_readsClause 72 = .ok (.aload_n 0, 1) := by decide +kernel
theorem dX10_readsClause_73 : decode cX10_readsClause 73 = .ok (.invokevirtual 147, 3) := by decide +kernel
theorem dX10_readsClause_76 : decode cX10_readsClause 76 = .ok (.goto 7, 3) := by decide +kernel
theorem dX10_readsClause_79 : decode cX10_readsClause 79 = .ok (.aload_n 0, 1) := by decide +kernel
theorem dX10_readsClause_80 : decode cX10_readsClause 80 = .ok (.invokevirtual 150, 3) := by decide +kernel
theorem dX10_readsClause_83 : decode cX10_readsClause 83 = .ok (.ireturn, 1) := by decide +kernel
set_option maxRecDepth 100000 in
theorem B_X10_readsClause_0 {d : Nat} {h : AbH} {K : Option AbV → AbH → Prop} {x0 : Nat} (hh : wpCV h (some x0) 9 (fun b78 => Vm d m_X10_wordHere [vR (some b78)] h (kI (fun n2 h1 => ((n2 = (-1) → K (some (vI 0)) h1) ∧ (¬ (n2 = (-1)) → ((n2 ≠ 1 → ((n2 ≠ 3 → wpCV h1 (some x0) 9 (fun b20 => Vm d m_X10_nextToken [vR (some b20)] h1 (kV (fun h3 => ((n2 ≠ 0 → ((n2 ≠ 1 → ((n2 ≠ 2 → wpCV h3 (some x0) 9 (fun b7 => Vm d m_X10_readsLoan [vR (some b7)] h3 (kI (fun n5 h4 => ab_z01 n5 ∧ K (some (vI n5)) h4)))) ∧ (¬ (n2 ≠ 2) → wpCV h3 (some x0) 9 (fun b11 => Vm d m_X10_readsMeet [vR (some b11)] h3 (kI (fun n9 h8 => ab_z01 n9 ∧ K (some (vI n9)) h8)))))) ∧ (¬ (n2 ≠ 1) → wpCV h3 (some x0) 9 (fun b15 => Vm d m_X10_readsLaw [vR (some b15)] h3 (kI (fun n13 h12 => ab_z01 n13 ∧ K (some (vI n13)) h12)))))) ∧ (¬ (n2 ≠ 0) → wpCV h3 (some x0) 9 (fun b19 => Vm d m_X10_readsAll [vR (some b19)] h3 (kI (fun n17 h16 => ab_z01 n17 ∧ K (some (vI n17)) h16))))))))) ∧ (¬ (n2 ≠ 3) → wpGI h1 (some x0) 9 9 (fun n21 => ((n21 ≠ 12 → wpCV h1 (some x0) 9 (fun b39 => Vm d m_X10_nextToken [vR (some b39)] h1 (kV (fun h22 => ((n2 ≠ 0 → ((n2 ≠ 1 → ((n2 ≠ 2 → wpCV h22 (some x0) 9 (fun b26 => Vm d m_X10_readsLoan [vR (some b26)] h22 (kI (fun n24 h23 => ab_z01 n24 ∧ K (some (vI n24)) h23)))) ∧ (¬ (n2 ≠ 2) → wpCV h22 (some x0) 9 (fun b30 => Vm d m_X10_readsMeet [vR (some b30)] h22 (kI (fun n28 h27 => ab_z01 n28 ∧ K (some (vI n28)) h27)))))) ∧ (¬ (n2 ≠ 1) → wpCV h22 (some x0) 9 (fun b34 => Vm d m_X10_readsLaw [vR (some b34)] h22 (kI (fun n32 h31 => ab_z01 n32 ∧ K (some (vI n32)) h31)))))) ∧ (¬ (n2 ≠ 0) → wpCV h22 (some x0) 9 (fun b38 => Vm d m_X10_readsAll [vR (some b38)] h22 (kI (fun n36 h35 => ab_z01 n36 ∧ K (some (vI n36)) h35))))))))) ∧ (¬ (n21 ≠ 12) → K (some (vI 0)) h1)))))) ∧ (¬ (n2 ≠ 1) → wpGI h1 (some x0) 9 8 (fun n40 => ((n40 = 16 → K (some (vI 0)) h1) ∧ (¬ (n40 = 16) → ((n2 ≠ 3 → wpCV h1 (some x0) 9 (fun b58 => Vm d m_X10_nextToken [vR (some b58)] h1 (kV (fun h41 => ((n2 ≠ 0 → ((n2 ≠ 1 → ((n2 ≠ 2 → wpCV h41 (some x0) 9 (fun b45 => Vm d m_X10_readsLoan [vR (some b45)] h41 (kI (fun n43 h42 => ab_z01 n43 ∧ K (some (vI n43)) h42)))) ∧ (¬ (n2 ≠ 2) → wpCV h41 (some x0) 9 (fun b49 => Vm d m_X10_readsMeet [vR (some b49)] h41 (kI (fun n47 h46 => ab_z01 n47 ∧ K (some (vI n47)) h46)))))) ∧ (¬ (n2 ≠ 1) → wpCV h41 (some x0) 9 (fun b53 => Vm d m_X10_readsLaw [vR (some b53)] h41 (kI (fun n51 h50 => ab_z01 n51 ∧ K (some (vI n51)) h50)))))) ∧ (¬ (n2 ≠ 0) → wpCV h41 (some x0) 9 (fun b57 => Vm d m_X10_readsAll [vR (some b57)] h41 (kI (fun n55 h54 => ab_z01 n55 ∧ K (some (vI n55)) h54))))))))) ∧ (¬ (n2 ≠ 3) → wpGI h1 (some x0) 9 9 (fun n59 => ((n59 ≠ 12 → wpCV h1 (some x0) 9 (fun b77 => Vm d m_X10_nextToken [vR (some b77)] h1 (kV (fun h60 => ((n2 ≠ 0 → ((n2 ≠ 1 → ((n2 ≠ 2 → wpCV h60 (some x0) 9 (fun b64 => Vm d m_X10_readsLoan [vR (some b64)] h60 (kI (fun n62 h61 => ab_z01 n62 ∧ K (some (vI n62)) h61)))) ∧ (¬ (n2 ≠ 2) → wpCV h60 (some x0) 9 (fun b68 => Vm d m_X10_readsMeet [vR (some b68)] h60 (kI (fun n66 h65 => ab_z01 n66 ∧ K (some (vI n66)) h65)))))) ∧ (¬ (n2 ≠ 1) → wpCV h60 (some x0) 9 (fun b72 => Vm d m_X10_readsLaw [vR (some b72)] h60 (kI (fun n70 h69 => ab_z01 n70 ∧ K (some (vI n70)) h69)))))) ∧ (¬ (n2 ≠ 0) → wpCV h60 (some x0) 9 (fun b76 => Vm d m_X10_readsAll [vR (some b76)] h60 (kI (fun n74 h73 => ab_z01 n74 ∧ K (some (vI n74)) h73))))))))) ∧ (¬ (n59 ≠ 12) → K (some (vI 0)) h1)))))))))))))))) : Vx (d + 1) m_X10_readsClause 0 0 0 [some (vR (some x0))] [] h K := by
  refine Vx.pad 1 [some (vR (some x0)), none] rfl ?_
  refine rr_aload_n dX10_readsClause_0 rfl rfl ?_
  refine rr_callW (bc' := 0) (bs' := 0) (q := (some x0)) (av := []) (st := []) mf_X10_wordHere dX10_readsClause_1 rfl q_870 q_872 qs_29 ⟨_, _, rfl⟩ rfl (by decide) (Nat.le_refl _) (Nat.le_refl _) hh (rr_kI fun n2 h1 hh => ?_)
  refine rr_istore_n (ls' := [some (vR (some x0)), some (vI n2)]) dX10_readsClause_4 rfl (by decide) (fun _ z => by cases z) rfl ?_
  refine rr_iload_n dX10_readsClause_5 rfl rfl ?_
  refine rr_iconst dX10_readsClause_6 rfl ⟨by decide, by decide⟩ ?_
  refine rr_icmp_eq (tgt := 38) dX10_readsClause_7 rfl (by decide) (fun hc7 => ?_) (fun hc7 => ?_)
  · have hh := hh.1 hc7
    refine rr_iconst dX10_readsClause_38 rfl ⟨by decide, by decide⟩ ?_
    exact rr_zret dX10_readsClause_39 rfl rfl hh
  · have hh := hh.2 hc7
    refine rr_iload_n dX10_readsClause_10 rfl rfl ?_
    refine rr_iconst dX10_readsClause_11 rfl ⟨by decide, by decide⟩ ?_
    refine rr_icmp_ne (tgt := 24) dX10_readsClause_12 rfl (by decide) (fun hc12 => ?_) (fun hc12 => ?_)
    · have hh := hh.1 hc12
      refine rr_iload_n dX10_readsClause_24 rfl rfl ?_
      refine rr_iconst dX10_readsClause_25 rfl ⟨by decide, by decide⟩ ?_
      refine rr_icmp_ne (tgt := 40) dX10_readsClause_26 rfl (by decide) (fun hc26 => ?_) (fun hc26 => ?_)
      · have hh := hh.1 hc26
        refine rr_aload_n dX10_readsClause_40 rfl rfl ?_
        refine rr_callW (bc' := 0) (bs' := 0) (q := (some x0)) (av := []) (st := []) mf_X10_nextToken dX10_readsClause_41 rfl q_852 q_854 qs_27 ⟨_, _, rfl⟩ rfl (by decide) (Nat.le_refl _) (Nat.le_refl _) hh (rr_kV fun h3 hh => ?_)
        refine rr_iload_n dX10_readsClause_44 rfl rfl ?_
        refine rr_if_ne (tgt := 55) dX10_readsClause_45 rfl (by decide) (fun hc45 => ?_) (fun hc45 => ?_)
        · have hh := hh.1 hc45
          refine rr_iload_n dX10_readsClause_55 rfl rfl ?_
          refine rr_iconst dX10_readsClause_56 rfl ⟨by decide, by decide⟩ ?_
          refine rr_icmp_ne (tgt := 67) dX10_readsClause_57 rfl (by decide) (fun hc57 => ?_) (fun hc57 => ?_)
          · have hh := hh.1 hc57
            refine rr_iload_n dX10_readsClause_67 rfl rfl ?_
            refine rr_iconst dX10_readsClause_68 rfl ⟨by decide, by decide⟩ ?_
            refine rr_icmp_ne (tgt := 79) dX10_readsClause_69 rfl (by decide) (fun hc69 => ?_) (fun hc69 => ?_)
            · have hh := hh.1 hc69
              refine rr_aload_n dX10_readsClause_79 rfl rfl ?_
              refine rr_callW (bc' := 0) (bs' := 0) (q := (some x0)) (av := []) (st := []) mf_X10_readsLoan dX10_readsClause_80 rfl q_914 q_916 qs_39 ⟨_, _, rfl⟩ rfl (by decide) (Nat.le_refl _) (Nat.le_refl _) hh (rr_kI fun n5 h4 hh => ?_)
              obtain ⟨hz6, hh⟩ := hh
              exact rr_zret dX10_readsClause_83 rfl (zn_b hz6) hh
            · have hh := hh.2 hc69
              refine rr_aload_n dX10_readsClause_72 rfl rfl ?_
              refine rr_callW (bc' := 0) (bs' := 0) (q := (some x0)) (av := []) (st := []) mf_X10_readsMeet dX10_readsClause_73 rfl q_907 q_909 qs_38 ⟨_, _, rfl⟩ rfl (by decide) (Nat.le_refl _) (Nat.le_refl _) hh (rr_kI fun n9 h8 hh => ?_)
              refine rr_goto (pc' := 83) dX10_readsClause_76 (by decide) ?_
              obtain ⟨hz10, hh⟩ := hh
              exact rr_zret dX10_readsClause_83 rfl (zn_b hz10) hh
          · have hh := hh.2 hc57
            refine rr_aload_n dX10_readsClause_60 rfl rfl ?_
            refine rr_callW (bc' := 0) (bs' := 0) (q := (some x0)) (av := []) (st := []) mf_X10_readsLaw dX10_readsClause_61 rfl q_874 q_876 qs_30 ⟨_, _, rfl⟩ rfl (by decide) (Nat.le_refl _) (Nat.le_refl _) hh (rr_kI fun n13 h12 hh => ?_)
            refine rr_goto (pc' := 83) dX10_readsClause_64 (by decide) ?_
            obtain ⟨hz14, hh⟩ := hh
            exact rr_zret dX10_readsClause_83 rfl (zn_b hz14) hh
        · have hh := hh.2 hc45
          refine rr_aload_n dX10_readsClause_48 rfl rfl ?_
          refine rr_callW (bc' := 0) (bs' := 0) (q := (some x0)) (av := []) (st := []) mf_X10_readsAll dX10_readsClause_49 rfl q_844 q_846 qs_25 ⟨_, _, rfl⟩ rfl (by decide) (Nat.le_refl _) (Nat.le_refl _) hh (rr_kI fun n17 h16 hh => ?_)
          refine rr_goto (pc' := 83) dX10_readsClause_52 (by decide) ?_
          obtain ⟨hz18, hh⟩ := hh
          exact rr_zret dX10_readsClause_83 rfl (zn_b hz18) hh
      · have hh := hh.2 hc26
        refine rr_aload_n dX10_readsClause_29 rfl rfl ?_
        refine rr_getI cf_X10 (j := 9) (by decide) dX10_readsClause_30 rfl q_763 hh (fun n21 hh => ?_)
        refine rr_bipush dX10_readsClause_33 rfl ⟨by decide, by decide⟩ rfl ?_
        refine rr_icmp_ne (tgt := 40) dX10_readsClause_35 rfl (by decide) (fun hc35 => ?_) (fun hc35 => ?_)
        · have hh := hh.1 hc35
          refine rr_aload_n dX10_readsClause_40 rfl rfl ?_
          refine rr_callW (bc' := 0) (bs' := 0) (q := (some x0)) (av := []) (st := []) mf_X10_nextToken dX10_readsClause_41 rfl q_852 q_854 qs_27 ⟨_, _, rfl⟩ rfl (by decide) (Nat.le_refl _) (Nat.le_refl _) hh (rr_kV fun h22 hh => ?_)
          refine rr_iload_n dX10_readsClause_44 rfl rfl ?_
          refine rr_if_ne (tgt := 55) dX10_readsClause_45 rfl (by decide) (fun hc45 => ?_) (fun hc45 => ?_)
          · have hh := hh.1 hc45
            refine rr_iload_n dX10_readsClause_55 rfl rfl ?_
            refine rr_iconst dX10_readsClause_56 rfl ⟨by decide, by decide⟩ ?_
            refine rr_icmp_ne (tgt := 67) dX10_readsClause_57 rfl (by decide) (fun hc57 => ?_) (fun hc57 => ?_)
            · have hh := hh.1 hc57
              refine rr_iload_n dX10_readsClause_67 rfl rfl ?_
              refine rr_iconst dX10_readsClause_68 rfl ⟨by decide, by decide⟩ ?_
              refine rr_icmp_ne (tgt := 79) dX10_readsClause_69 rfl (by decide) (fun hc69 => ?_) (fun hc69 => ?_)
              · have hh := hh.1 hc69
                refine rr_aload_n dX10_readsClause_79 rfl rfl ?_
                refine rr_callW (bc' := 0) (bs' := 0) (q := (some x0)) (av := []) (st := []) mf_X10_readsLoan dX10_readsClause_80 rfl q_914 q_916 qs_39 ⟨_, _, rfl⟩ rfl (by decide) (Nat.le_refl _) (Nat.le_refl _) hh (rr_kI fun n24 h23 hh => ?_)
                obtain ⟨hz25, hh⟩ := hh
                exact rr_zret dX10_readsClause_83 rfl (zn_b hz25) hh
              · have hh := hh.2 hc69
                refine rr_aload_n dX10_readsClause_72 rfl rfl ?_
                refine rr_callW (bc' := 0) (bs' := 0) (q := (some x0)) (av := []) (st := []) mf_X10_readsMeet dX10_readsClause_73 rfl q_907 q_909 qs_38 ⟨_, _, rfl⟩ rfl (by decide) (Nat.le_refl _) (Nat.le_refl _) hh (rr_kI fun n28 h27 hh => ?_)
                refine rr_goto (pc' := 83) dX10_readsClause_76 (by decide) ?_
                obtain ⟨hz29, hh⟩ := hh
                exact rr_zret dX10_readsClause_83 rfl (zn_b hz29) hh
            · have hh := hh.2 hc57
              refine rr_aload_n dX10_readsClause_60 rfl rfl ?_
              refine rr_callW (bc' := 0) (bs' := 0) (q := (some x0)) (av := []) (st := []) mf_X10_readsLaw dX10_readsClause_61 rfl q_874 q_876 qs_30 ⟨_, _, rfl⟩ rfl (by decide) (Nat.le_refl _) (Nat.le_refl _) hh (rr_kI fun n32 h31 hh => ?_)
              refine rr_goto (pc' := 83) dX10_readsClause_64 (by decide) ?_
              obtain ⟨hz33, hh⟩ := hh
              exact rr_zret dX10_readsClause_83 rfl (zn_b hz33) hh
          · have hh := hh.2 hc45
            refine rr_aload_n dX10_readsClause_48 rfl rfl ?_
            refine rr_callW (bc' := 0) (bs' := 0) (q := (some x0)) (av := []) (st := []) mf_X10_readsAll dX10_readsClause_49 rfl q_844 q_846 qs_25 ⟨_, _, rfl⟩ rfl (by decide) (Nat.le_refl _) (Nat.le_refl _) hh (rr_kI fun n36 h35 hh => ?_)
            refine rr_goto (pc' := 83) dX10_readsClause_52 (by decide) ?_
            obtain ⟨hz37, hh⟩ := hh
            exact rr_zret dX10_readsClause_83 rfl (zn_b hz37) hh
        · have hh := hh.2 hc35
          refine rr_iconst dX10_readsClause_38 rfl ⟨by decide, by decide⟩ ?_
          exact rr_zret dX10_readsClause_39 rfl rfl hh
    · have hh := hh.2 hc12
      refine rr_aload_n dX10_readsClause_15 rfl rfl ?_
      refine rr_getI cf_X10 (j := 8) (by decide) dX10_readsClause_16 rfl q_762 hh (fun n40 hh => ?_)
      refine rr_bipush dX10_readsClause_19 rfl ⟨by decide, by decide⟩ rfl ?_
      refine rr_icmp_eq (tgt := 38) dX10_readsClause_21 rfl (by decide) (fun hc21 => ?_) (fun hc21 => ?_)
      · have hh := hh.1 hc21
        refine rr_iconst dX10_readsClause_38 rfl ⟨by decide, by decide⟩ ?_
        exact rr_zret dX10_readsClause_39 rfl rfl hh
      · have hh := hh.2 hc21
        refine rr_iload_n dX10_readsClause_24 rfl rfl ?_
        refine rr_iconst dX10_readsClause_25 rfl ⟨by decide, by decide⟩ ?_
        refine rr_icmp_ne (tgt := 40) dX10_readsClause_26 rfl (by decide) (fun hc26 => ?_) (fun hc26 => ?_)
        · have hh := hh.1 hc26
          refine rr_aload_n dX10_readsClause_40 rfl rfl ?_
          refine rr_callW (bc' := 0) (bs' := 0) (q := (some x0)) (av := []) (st := []) mf_X10_nextToken dX10_readsClause_41 rfl q_852 q_854 qs_27 ⟨_, _, rfl⟩ rfl (by decide) (Nat.le_refl _) (Nat.le_refl _) hh (rr_kV fun h41 hh => ?_)
          refine rr_iload_n dX10_readsClause_44 rfl rfl ?_
          refine rr_if_ne (tgt := 55) dX10_readsClause_45 rfl (by decide) (fun hc45 => ?_) (fun hc45 => ?_)
          · have hh := hh.1 hc45
            refine rr_iload_n dX10_readsClause_55 rfl rfl ?_
            refine rr_iconst dX10_readsClause_56 rfl ⟨by decide, by decide⟩ ?_
            refine rr_icmp_ne (tgt := 67) dX10_readsClause_57 rfl (by decide) (fun hc57 => ?_) (fun hc57 => ?_)
            · have hh := hh.1 hc57
              refine rr_iload_n dX10_readsClause_67 rfl rfl ?_
              refine rr_iconst dX10_readsClause_68 rfl ⟨by decide, by decide⟩ ?_
              refine rr_icmp_ne (tgt := 79) dX10_readsClause_69 rfl (by decide) (fun hc69 => ?_) (fun hc69 => ?_)
              · have hh := hh.1 hc69
                refine rr_aload_n dX10_readsClause_79 rfl rfl ?_
                refine rr_callW (bc' := 0) (bs' := 0) (q := (some x0)) (av := []) (st := []) mf_X10_readsLoan dX10_readsClause_80 rfl q_914 q_916 qs_39 ⟨_, _, rfl⟩ rfl (by decide) (Nat.le_refl _) (Nat.le_refl _) hh (rr_kI fun n43 h42 hh => ?_)
                obtain ⟨hz44, hh⟩ := hh
                exact rr_zret dX10_readsClause_83 rfl (zn_b hz44) hh
              · have hh := hh.2 hc69
                refine rr_aload_n dX10_readsClause_72 rfl rfl ?_
                refine rr_callW (bc' := 0) (bs' := 0) (q := (some x0)) (av := []) (st := []) mf_X10_readsMeet dX10_readsClause_73 rfl q_907 q_909 qs_38 ⟨_, _, rfl⟩ rfl (by decide) (Nat.le_refl _) (Nat.le_refl _) hh (rr_kI fun n47 h46 hh => ?_)
                refine rr_goto (pc' := 83) dX10_readsClause_76 (by decide) ?_
                obtain ⟨hz48, hh⟩ := hh
                exact rr_zret dX10_readsClause_83 rfl (zn_b hz48) hh
            · have hh := hh.2 hc57
              refine rr_aload_n dX10_readsClause_60 rfl rfl ?_
              refine rr_callW (bc' := 0) (bs' := 0) (q := (some x0)) (av := []) (st := []) mf_X10_readsLaw dX10_readsClause_61 rfl q_874 q_876 qs_30 ⟨_, _, rfl⟩ rfl (by decide) (Nat.le_refl _) (Nat.le_refl _) hh (rr_kI fun n51 h50 hh => ?_)
              refine rr_goto (pc' := 83) dX10_readsClause_64 (by decide) ?_
              obtain ⟨hz52, hh⟩ := hh
              exact rr_zret dX10_readsClause_83 rfl (zn_b hz52) hh
          · have hh := hh.2 hc45
            refine rr_aload_n dX10_readsClause_48 rfl rfl ?_
            refine rr_callW (bc' := 0) (bs' := 0) (q := (some x0)) (av := []) (st := []) mf_X10_readsAll dX10_readsClause_49 rfl q_844 q_846 qs_25 ⟨_, _, rfl⟩ rfl (by decide) (Nat.le_refl _) (Nat.le_refl _) hh (rr_kI fun n55 h54 hh => ?_)
            refine rr_goto (pc' := 83) dX10_readsClause_52 (by decide) ?_
            obtain ⟨hz56, hh⟩ := hh
            exact rr_zret dX10_readsClause_83 rfl (zn_b hz56) hh
        · have hh := hh.2 hc26
          refine rr_aload_n dX10_readsClause_29 rfl rfl ?_
          refine rr_getI cf_X10 (j := 9) (by decide) dX10_readsClause_30 rfl q_763 hh (fun n59 hh => ?_)
          refine rr_bipush dX10_readsClause_33 rfl ⟨by decide, by decide⟩ rfl ?_
          refine rr_icmp_ne (tgt := 40) dX10_readsClause_35 rfl (by decide) (fun hc35 => ?_) (fun hc35 => ?_)
          · have hh := hh.1 hc35
            refine rr_aload_n dX10_readsClause_40 rfl rfl ?_
            refine rr_callW (bc' := 0) (bs' := 0) (q := (some x0)) (av := []) (st := []) mf_X10_nextToken dX10_readsClause_41 rfl q_852 q_854 qs_27 ⟨_, _, rfl⟩ rfl (by decide) (Nat.le_refl _) (Nat.le_refl _) hh (rr_kV fun h60 hh => ?_)
            refine rr_iload_n dX10_readsClause_44 rfl rfl ?_
            refine rr_if_ne (tgt := 55) dX10_readsClause_45 rfl (by decide) (fun hc45 => ?_) (fun hc45 => ?_)
            · have hh := hh.1 hc45
              refine rr_iload_n dX10_readsClause_55 rfl rfl ?_
              refine rr_iconst dX10_readsClause_56 rfl ⟨by decide, by decide⟩ ?_
              refine rr_icmp_ne (tgt := 67) dX10_readsClause_57 rfl (by decide) (fun hc57 => ?_) (fun hc57 => ?_)
              · have hh := hh.1 hc57
                refine rr_iload_n dX10_readsClause_67 rfl rfl ?_
                refine rr_iconst dX10_readsClause_68 rfl ⟨by decide, by decide⟩ ?_
                refine rr_icmp_ne (tgt := 79) dX10_readsClause_69 rfl (by decide) (fun hc69 => ?_) (fun hc69 => ?_)
                · have hh := hh.1 hc69
                  refine rr_aload_n dX10_readsClause_79 rfl rfl ?_
                  refine rr_callW (bc' := 0) (bs' := 0) (q := (some x0)) (av := []) (st := []) mf_X10_readsLoan dX10_readsClause_80 rfl q_914 q_916 qs_39 ⟨_, _, rfl⟩ rfl (by decide) (Nat.le_refl _) (Nat.le_refl _) hh (rr_kI fun n62 h61 hh => ?_)
                  obtain ⟨hz63, hh⟩ := hh
                  exact rr_zret dX10_readsClause_83 rfl (zn_b hz63) hh
                · have hh := hh.2 hc69
                  refine rr_aload_n dX10_readsClause_72 rfl rfl ?_
                  refine rr_callW (bc' := 0) (bs' := 0) (q := (some x0)) (av := []) (st := []) mf_X10_readsMeet dX10_readsClause_73 rfl q_907 q_909 qs_38 ⟨_, _, rfl⟩ rfl (by decide) (Nat.le_refl _) (Nat.le_refl _) hh (rr_kI fun n66 h65 hh => ?_)
                  refine rr_goto (pc' := 83) dX10_readsClause_76 (by decide) ?_
                  obtain ⟨hz67, hh⟩ := hh
                  exact rr_zret dX10_readsClause_83 rfl (zn_b hz67) hh
              · have hh := hh.2 hc57
                refine rr_aload_n dX10_readsClause_60 rfl rfl ?_
                refine rr_callW (bc' := 0) (bs' := 0) (q := (some x0)) (av := []) (st := []) mf_X10_readsLaw dX10_readsClause_61 rfl q_874 q_876 qs_30 ⟨_, _, rfl⟩ rfl (by decide) (Nat.le_refl _) (Nat.le_refl _) hh (rr_kI fun n70 h69 hh => ?_)
                refine rr_goto (pc' := 83) dX10_readsClause_64 (by decide) ?_
                obtain ⟨hz71, hh⟩ := hh
                exact rr_zret dX10_readsClause_83 rfl (zn_b hz71) hh
            · have hh := hh.2 hc45
              refine rr_aload_n dX10_readsClause_48 rfl rfl ?_
              refine rr_callW (bc' := 0) (bs' := 0) (q := (some x0)) (av := []) (st := []) mf_X10_readsAll dX10_readsClause_49 rfl q_844 q_846 qs_25 ⟨_, _, rfl⟩ rfl (by decide) (Nat.le_refl _) (Nat.le_refl _) hh (rr_kI fun n74 h73 hh => ?_)
              refine rr_goto (pc' := 83) dX10_readsClause_52 (by decide) ?_
              obtain ⟨hz75, hh⟩ := hh
              exact rr_zret dX10_readsClause_83 rfl (zn_b hz75) hh
          · have hh := hh.2 hc35
            refine rr_iconst dX10_readsClause_38 rfl ⟨by decide, by decide⟩ ?_
            exact rr_zret dX10_readsClause_39 rfl rfl hh
theorem dX10_reads_0 : decode cX10_reads 0 = .ok (.aload_n 0, 1) := by decide +kernel
theorem dX10_reads_1 : decode cX10_reads 1 = .ok (.iconst 0, 1) := by decide +kernel
theorem dX10_reads_2 : decode cX10_reads 2 = .ok (.putfield 120, 3) := by decide +kernel
theorem dX10_reads_5 : decode cX10_reads 5 = .ok (.aload_n 0, 1) := by decide +kernel
theorem dX10_reads_6 : decode cX10_reads 6 = .ok (.invokevirtual 141, 3) := by decide +kernel
theorem dX10_reads_9 : decode cX10_reads 9 = .ok (.pop, 1) := by decide +kernel
theorem dX10_reads_10 : decode cX10_reads 10 = .ok (.aload_n 0, 1) := by decide +kernel
theorem dX10_reads_11 : decode cX10_reads 11 = .ok (.iload_n 1, 1) := by decide +kernel
theorem dX10_reads_12 : decode cX10_reads 12 = .ok (.putfield 120, 3) := by decide +kernel
theorem dX10_reads_15 : decode cX10_reads 15 = .ok (.aload_n 0, 1) := by decide +kernel
theorem dX10_reads_16 : decode cX10_reads 16 = .ok (.iconst 0, 1) := by decide +kernel
theorem dX10_reads_17 : decode cX10_reads 17 = .ok (.putfield 80, 3) := by decide +kernel
theorem dX10_reads_20 : decode cX10_reads 20 = .ok (.aload_n 0, 1) := by decide +kernel
theorem dX10_reads_21 : decode cX10_reads 21 = .ok (.iconst 1, 1) := by decide +kernel
theorem dX10_reads_22 : decode cX10_reads 22 = .ok (.putfield 153, 3) := by decide +kernel
theorem dX10_reads_25 : decode cX10_reads 25 = .ok (.aload_n 0, 1) := by decide +kernel
theorem dX10_reads_26 : decode cX10_reads 26 = .ok (.aload_n 0, 1) := by decide +kernel
theorem dX10_reads_27 : decode cX10_reads 27 = .ok (.getfield 7, 3) := by decide +kernel
theorem dX10_reads_30 : decode cX10_reads 30 = .ok (.iconst 0, 1) := by decide +kernel
theorem dX10_reads_31 : decode cX10_reads 31 = .ok (.iaload, 1) := by decide +kernel
theorem dX10_reads_32 : decode cX10_reads 32 = .ok (.putfield 117, 3) := by decide +kernel
theorem dX10_reads_35 : decode cX10_reads 35 = .ok (.aload_n 0, 1) := by decide +kernel
theorem dX10_reads_36 : decode cX10_reads 36 = .ok (.aload_n 0, 1) := by decide +kernel
theorem dX10_reads_37 : decode cX10_reads 37 = .ok (.getfield 7, 3) := by decide +kernel
theorem dX10_reads_40 : decode cX10_reads 40 = .ok (.iconst 1, 1) := by decide +kernel
theorem dX10_reads_41 : decode cX10_reads 41 = .ok (.iaload, 1) := by decide +kernel
theorem dX10_reads_42 : decode cX10_reads 42 = .ok (.putfield 135, 3) := by decide +kernel
theorem dX10_reads_45 : decode cX10_reads 45 = .ok (.iconst 0, 1) := by decide +kernel
theorem dX10_reads_46 : decode cX10_reads 46 = .ok (.istore_n 2, 1) := by decide +kernel
theorem dX10_reads_47 : decode cX10_reads 47 = .ok (.iload_n 2, 1) := by decide +kernel
theorem dX10_reads_48 : decode cX10_reads 48 = .ok (.aload_n 0, 1) := by decide +kernel
theorem dX10_reads_49 : decode cX10_reads 49 = .ok (.getfield 7, 3) := by decide +kernel
theorem dX10_reads_52 : decode cX10_reads 52 = .ok (.iconst 0, 1) := by decide +kernel
theorem dX10_reads_53 : decode cX10_reads 53 = .ok (.iaload, 1) := by decide +kernel
theorem dX10_reads_54 : decode cX10_reads 54 = .ok (.if_icmp .ge 31, 3) := by decide +kernel
theorem dX10_reads_57 : decode cX10_reads 57 = .ok (.aload_n 0, 1) := by decide +kernel
theorem dX10_reads_58 : decode cX10_reads 58 = .ok (.getfield 20, 3) := by decide +kernel
theorem dX10_reads_61 : decode cX10_reads 61 = .ok (.bipush 100, 2) := by decide +kernel
theorem dX10_reads_63 : decode cX10_reads 63 = .ok (.aload_n 0, 1) := by decide +kernel
theorem dX10_reads_64 : decode cX10_reads 64 = .ok (.iload_n 2, 1) := by decide +kernel
theorem dX10_reads_65 : decode cX10_reads 65 = .ok (.iconst 0, 1) := by decide +kernel
theorem dX10_reads_66 : decode cX10_reads 66 = .ok (.invokevirtual 156, 3) := by decide +kernel
theorem dX10_reads_69 : decode cX10_reads 69 = .ok (.imul, 1) := by decide +kernel
theorem dX10_reads_70 : decode cX10_reads 70 = .ok (.aload_n 0, 1) := by decide +kernel
theorem dX10_reads_71 : decode cX10_reads 71 = .ok (.iload_n 2, 1) := by decide +kernel
theorem dX10_reads_72 : decode cX10_reads 72 = .ok (.iconst 1, 1) := by decide +kernel
theorem dX10_reads_73 : decode cX10_reads 73 = .ok (.invokevirtual 156, 3) := by decide +kernel
theorem dX10_reads_76 : decode cX10_reads 76 = .ok (.iadd, 1) := by decide +kernel
theorem dX10_reads_77 : decode cX10_reads 77 = .ok (.iconst 1, 1) := by decide +kernel
theorem dX10_reads_78 : decode cX10_reads 78 = .ok (.bastore, 1) := by decide +kernel
theorem dX10_reads_79 : decode cX10_reads 79 = .ok (.iinc 2 1, 3) := by decide +kernel
theorem dX10_reads_82 : decode cX10_reads 82 = .ok (.goto (-35), 3) := by decide +kernel
theorem dX10_reads_85 : decode cX10_reads 85 = .ok (.aload_n 0, 1) := by decide +kernel
theorem dX10_reads_86 : decode cX10_reads 86 = .ok (.invokevirtual 96, 3) := by decide +kernel
theorem dX10_reads_89 : decode cX10_reads 89 = .ok (.aload_n 0, 1) := by decide +kernel
theorem dX10_reads_90 : decode cX10_reads 90 = .ok (.invokevirtual 159, 3) := by decide +kernel
theorem dX10_reads_93 : decode cX10_reads 93 = .ok (.istore_n 2, 1) := by decide +kernel
theorem dX10_reads_94 : decode cX10_reads 94 = .ok (.iload_n 2, 1) := by decide +kernel
theorem dX10_reads_95 : decode cX10_reads 95 = .ok (.ifCond .eq 69, 3) := by decide +kernel
theorem dX10_reads_98 : decode cX10_reads 98 = .ok (.aload_n 0, 1) := by decide +kernel
theorem dX10_reads_99 : decode cX10_reads 99 = .ok (.getfield 83, 3) := by decide +kernel
theorem dX10_reads_102 : decode cX10_reads 102 = .ok (.aload_n 0, 1) := by decide +kernel
theorem dX10_reads_103 : decode cX10_reads 103 = .ok (.getfield 68, 3) := by decide +kernel
theorem dX10_reads_106 : decode cX10_reads 106 = .ok (.if_icmp .ge 58, 3) := by decide +kernel
theorem dX10_reads_109 : decode cX10_reads 109 = .ok (.aload_n 0, 1) := by decide +kernel
theorem dX10_reads_110 : decode cX10_reads 110 = .ok (.getfield 153, 3) := by decide +kernel
theorem dX10_reads_113 : decode cX10_reads 113 = .ok (.bipush 24, 2) := by decide +kernel
theorem dX10_reads_115 : decode cX10_reads 115 = .ok (.if_icmp .ge 21, 3) := by decide +kernel
theorem dX10_reads_118 : decode cX10_reads 118 = .ok (.aload_n 0, 1) := by decide +kernel
theorem dX10_reads_119 : decode cX10_reads 119 = .ok (.getfield 17, 3) := by decide +kernel
theorem dX10_reads_122 : decode cX10_reads 122 = .ok (.aload_n 0, 1) := by decide +kernel
theorem dX10_reads_123 : decode cX10_reads 123 = .ok (.getfield 83, 3) := by decide +kernel
theorem dX10_reads_126 : decode cX10_reads 126 = .ok (.iaload, 1) := by decide +kernel
theorem dX10_reads_127 : decode cX10_reads 127 = .ok (.bipush 59, 2) := by decide +kernel
theorem dX10_reads_129 : decode cX10_reads 129 = .ok (.if_icmp .ne 7, 3) := by decide +kernel
theorem dX10_reads_132 : decode cX10_reads 132 = .ok (.iconst 1, 1) := by decide +kernel
theorem dX10_reads_133 : decode cX10_reads 133 = .ok (.goto 4, 3) := by decide +kernel
theorem dX10_reads_136 : decode cX10_reads 136 = .ok (.iconst 0, 1) := by decide +kernel
theorem dX10_reads_137 : decode cX10_reads 137 = .ok (.istore_n 2, 1) := by decide +kernel
theorem dX10_reads_138 : decode cX10_reads 138 = .ok (.iload_n 2, 1) := by decide +kernel
theorem dX10_reads_139 : decode cX10_reads 139 = .ok (.ifCond .eq (-45), 3) := by decide +kernel
theorem dX10_reads_142 : decode cX10_reads 142 = .ok (.aload_n 0, 1) := by decide +kernel
theorem dX10_reads_143 : decode cX10_reads 143 = .ok (.invokevirtual 96, 3) := by decide +kernel
theorem dX10_reads_146 : decode cX10_reads 146 = .ok (.aload_n 0, 1) := by decide +kernel
theorem dX10_reads_147 : decode cX10_reads 147 = .ok (.invokevirtual 159, 3) := by decide +kernel
theorem dX10_reads_150 : decode cX10_reads 150 = .ok (.istore_n 2, 1) := by decide +kernel
theorem dX10_reads_151 : decode cX10_reads 151 = .ok (.aload_n 0, 1) := by decide +kernel
theorem dX10_reads_152 : decode cX10_reads 152 = .ok (.dup, 1) := by decide +kernel
theorem dX10_reads_153 : decode cX10_reads 153 = .ok (.getfield 153, 3) := by decide +kernel
theorem dX10_reads_156 : decode cX10_reads 156 = .ok (.iconst 1, 1) := by decide +kernel
theorem dX10_reads_157 : decode cX10_reads 157 = .ok (.iadd, 1) := by decide +kernel
theorem dX10_reads_158 : decode cX10_reads 158 = .ok (.putfield 153, 3) := by decide +kernel
theorem dX10_reads_161 : decode cX10_reads 161 = .ok (.goto (-67), 3) := by decide +kernel
theorem dX10_reads_164 : decode cX10_reads 164 = .ok (.iload_n 2, 1) := by decide +kernel
theorem dX10_reads_165 : decode cX10_reads 165 = .ok (.ireturn, 1) := by decide +kernel
set_option maxRecDepth 100000 in
theorem B_X10_reads_0 {d : Nat} {h : AbH} {K : Option AbV → AbH → Prop} {x0 : Nat} {x1 : Int} (hh : wpP h (some x0) 9 11 (vI 0) (fun h1 => wpCV h1 (some x0) 9 (fun b14 => Vm d m_X10_readsAll [vR (some b14)] h1 (kI (fun n3 h2 => ab_z01 x1 ∧ wpP h2 (some x0) 9 11 (vI x1) (fun h4 => wpP h4 (some x0) 9 6 (vI 0) (fun h5 => wpP h5 (some x0) 9 10 (vI 1) (fun h6 => wpGR h6 (some x0) 9 0 (fun r7 => wpLI h6 r7 0 (fun n8 => wpP h6 (some x0) 9 8 (vI n8) (fun h9 => wpGR h9 (some x0) 9 0 (fun r10 => wpLI h9 r10 1 (fun n11 => wpP h9 (some x0) 9 9 (vI n11) (fun h12 => Vx (d + 1) m_X10_reads 0 0 47 [some (vR (some x0)), some (vI x1), some (vI 0)] [] h12 K)))))))))))))) : Vx (d + 1) m_X10_reads 0 0 0 [some (vR (some x0)), some (vI x1)] [] h K := by
  refine Vx.pad 1 [some (vR (some x0)), some (vI x1), none] rfl ?_
  refine rr_aload_n dX10_reads_0 rfl rfl ?_
  refine rr_iconst dX10_reads_1 rfl ⟨by decide, by decide⟩ ?_
  refine rr_put cf_X10 (j := 11) (by decide) dX10_reads_2 rfl q_765 rfl (fty := .boolean) (by decide +kernel) rfl rfl hh (fun h1 hh => ?_)
  refine rr_aload_n dX10_reads_5 rfl rfl ?_
  refine rr_callW (bc' := 0) (bs' := 0) (q := (some x0)) (av := []) (st := []) mf_X10_readsAll dX10_reads_6 rfl q_844 q_846 qs_25 ⟨_, _, rfl⟩ rfl (by decide) (Nat.le_refl _) (Nat.le_refl _) hh (rr_kI fun n3 h2 hh => ?_)
  refine rr_pop dX10_reads_9 rfl rfl ?_
  refine rr_aload_n dX10_reads_10 rfl rfl ?_
  refine rr_iload_n dX10_reads_11 rfl rfl ?_
  obtain ⟨hz13, hh⟩ := hh
  refine rr_put cf_X10 (j := 11) (by decide) dX10_reads_12 rfl q_765 rfl (fty := .boolean) (by decide +kernel) (zn_b hz13) (zf_b hz13) hh (fun h4 hh => ?_)
  refine rr_aload_n dX10_reads_15 rfl rfl ?_
  refine rr_iconst dX10_reads_16 rfl ⟨by decide, by decide⟩ ?_
  refine rr_put cf_X10 (j := 6) (by decide) dX10_reads_17 rfl q_760 rfl (fty := .int) (by decide +kernel) rfl rfl hh (fun h5 hh => ?_)
  refine rr_aload_n dX10_reads_20 rfl rfl ?_
  refine rr_iconst dX10_reads_21 rfl ⟨by decide, by decide⟩ ?_
  refine rr_put cf_X10 (j := 10) (by decide) dX10_reads_22 rfl q_764 rfl (fty := .int) (by decide +kernel) rfl rfl hh (fun h6 hh => ?_)
  refine rr_aload_n dX10_reads_25 rfl rfl ?_
  refine rr_aload_n dX10_reads_26 rfl rfl ?_
  refine rr_getR cf_X10 (j := 0) (by decide) dX10_reads_27 rfl q_754 hh (fun r7 hh => ?_)
  refine rr_iconst dX10_reads_30 rfl ⟨by decide, by decide⟩ ?_
  refine rr_iald dX10_reads_31 rfl hh (fun n8 hh => ?_)
  refine rr_put cf_X10 (j := 8) (by decide) dX10_reads_32 rfl q_762 rfl (fty := .int) (by decide +kernel) rfl rfl hh (fun h9 hh => ?_)
  refine rr_aload_n dX10_reads_35 rfl rfl ?_
  refine rr_aload_n dX10_reads_36 rfl rfl ?_
  refine rr_getR cf_X10 (j := 0) (by decide) dX10_reads_37 rfl q_754 hh (fun r10 hh => ?_)
  refine rr_iconst dX10_reads_40 rfl ⟨by decide, by decide⟩ ?_
  refine rr_iald dX10_reads_41 rfl hh (fun n11 hh => ?_)
  refine rr_put cf_X10 (j := 9) (by decide) dX10_reads_42 rfl q_763 rfl (fty := .int) (by decide +kernel) rfl rfl hh (fun h12 hh => ?_)
  refine rr_iconst dX10_reads_45 rfl ⟨by decide, by decide⟩ ?_
  refine rr_istore_n (ls' := [some (vR (some x0)), some (vI x1), some (vI 0)]) dX10_reads_46 rfl (by decide) (fun _ z => by cases z) rfl ?_
  exact hh
set_option maxRecDepth 100000 in
theorem B_X10_reads_47 {d : Nat} {h : AbH} {K : Option AbV → AbH → Prop} {x0 : Nat} {x1 : Int} {x2 : Int} {bc bs : Nat} (hh : wpGR h (some x0) 9 0 (fun r1 => wpLI h r1 0 (fun n2 => ((n2 ≤ x2 → wpCV h (some x0) 9 (fun b7 => Vm d m_X10_nextToken [vR (some b7)] h (kV (fun h3 => wpCV h3 (some x0) 9 (fun b6 => Vm d m_X10_readsClause [vR (some b6)] h3 (kI (fun n5 h4 => Vx (d + 1) m_X10_reads bc bs 94 [some (vR (some x0)), some (vI x1), some (vI n5)] [] h4 K))))))) ∧ (¬ (n2 ≤ x2) → wpGR h (some x0) 9 7 (fun r8 => wpCV h (some x0) 9 (fun b18 => Vm d m_X10_lawOf [vR (some b18), vI x2, vI 0] h (kI (fun n10 h9 => in32 (100 * n10) ∧ wpCV h9 (some x0) 9 (fun b17 => Vm d m_X10_lawOf [vR (some b17), vI x2, vI 1] h9 (kI (fun n13 h12 => in32 ((100 * n10) + n13) ∧ wpSZ h12 r8 ((100 * n10) + n13) 1 (fun h15 => in32 (x2 + 1) ∧ Vx (d + 1) m_X10_reads bc bs 47 [some (vR (some x0)), some (vI x1), some (vI (x2 + 1))] [] h15 K))))))))))))) : Vx (d + 1) m_X10_reads bc bs 47 [some (vR (some x0)), some (vI x1), some (vI x2)] [] h K := by
  refine rr_iload_n dX10_reads_47 rfl rfl ?_
  refine rr_aload_n dX10_reads_48 rfl rfl ?_
  refine rr_getR cf_X10 (j := 0) (by decide) dX10_reads_49 rfl q_754 hh (fun r1 hh => ?_)
  refine rr_iconst dX10_reads_52 rfl ⟨by decide, by decide⟩ ?_
  refine rr_iald dX10_reads_53 rfl hh (fun n2 hh => ?_)
  refine rr_icmp_ge (tgt := 85) dX10_reads_54 rfl (by decide) (fun hc54 => ?_) (fun hc54 => ?_)
  · have hh := hh.1 hc54
    refine rr_aload_n dX10_reads_85 rfl rfl ?_
    refine rr_callW (bc' := bc) (bs' := bs) (q := (some x0)) (av := []) (st := []) mf_X10_nextToken dX10_reads_86 rfl q_852 q_854 qs_27 ⟨_, _, rfl⟩ rfl (by decide) (Nat.le_refl _) (Nat.le_refl _) hh (rr_kV fun h3 hh => ?_)
    refine rr_aload_n dX10_reads_89 rfl rfl ?_
    refine rr_callW (bc' := bc) (bs' := bs) (q := (some x0)) (av := []) (st := []) mf_X10_readsClause dX10_reads_90 rfl q_866 q_868 qs_28 ⟨_, _, rfl⟩ rfl (by decide) (Nat.le_refl _) (Nat.le_refl _) hh (rr_kI fun n5 h4 hh => ?_)
    refine rr_istore_n (ls' := [some (vR (some x0)), some (vI x1), some (vI n5)]) dX10_reads_93 rfl (by decide) (fun _ z => by cases z) rfl ?_
    exact hh
  · have hh := hh.2 hc54
    refine rr_aload_n dX10_reads_57 rfl rfl ?_
    refine rr_getR cf_X10 (j := 7) (by decide) dX10_reads_58 rfl q_761 hh (fun r8 hh => ?_)
    refine rr_bipush dX10_reads_61 rfl ⟨by decide, by decide⟩ rfl ?_
    refine rr_aload_n dX10_reads_63 rfl rfl ?_
    refine rr_iload_n dX10_reads_64 rfl rfl ?_
    refine rr_iconst dX10_reads_65 rfl ⟨by decide, by decide⟩ ?_
    refine rr_callW (bc' := bc) (bs' := bs) (q := (some x0)) (av := [vI x2, vI 0]) (st := [vI 100, vR r8]) mf_X10_lawOf dX10_reads_66 rfl q_848 q_850 qs_26 ⟨_, _, rfl⟩ rfl (cs_le _ (Nat.le_of_ble_eq_true rfl)) (Nat.le_refl _) (Nat.le_refl _) hh (rr_kI fun n10 h9 hh => ?_)
    obtain ⟨hz11, hh⟩ := hh
    refine rr_imul dX10_reads_69 rfl hz11 ?_
    refine rr_aload_n dX10_reads_70 rfl rfl ?_
    refine rr_iload_n dX10_reads_71 rfl rfl ?_
    refine rr_iconst dX10_reads_72 rfl ⟨by decide, by decide⟩ ?_
    refine rr_callW (bc' := bc) (bs' := bs) (q := (some x0)) (av := [vI x2, vI 1]) (st := [vI (100 * n10), vR r8]) mf_X10_lawOf dX10_reads_73 rfl q_848 q_850 qs_26 ⟨_, _, rfl⟩ rfl (cs_le _ (Nat.le_of_ble_eq_true rfl)) (Nat.le_refl _) (Nat.le_refl _) hh (rr_kI fun n13 h12 hh => ?_)
    obtain ⟨hz14, hh⟩ := hh
    refine rr_iadd dX10_reads_76 rfl hz14 ?_
    refine rr_iconst dX10_reads_77 rfl ⟨by decide, by decide⟩ ?_
    refine rr_zast dX10_reads_78 rfl hh (fun h15 hh => ?_)
    obtain ⟨hz16, hh⟩ := hh
    refine rr_iinc (ls' := [some (vR (some x0)), some (vI x1), some (vI (x2 + 1))]) dX10_reads_79 rfl rfl (by decide) (fun _ z => by cases z) hz16 rfl ?_
    refine rr_goto (pc' := 47) dX10_reads_82 (by decide) ?_
    exact hh
set_option maxRecDepth 100000 in
theorem B_X10_reads_94 {d : Nat} {h : AbH} {K : Option AbV → AbH → Prop} {x0 : Nat} {x1 : Int} {x2 : Int} {bc bs : Nat} (hh : ((x2 = 0 → ab_z01 x2 ∧ K (some (vI x2)) h) ∧ (¬ (x2 = 0) → wpGI h (some x0) 9 5 (fun n2 => wpGI h (some x0) 9 4 (fun n3 => ((n3 ≤ n2 → ab_z01 x2 ∧ K (some (vI x2)) h) ∧ (¬ (n3 ≤ n2) → wpGI h (some x0) 9 10 (fun n5 => ((24 ≤ n5 → Vx (d + 1) m_X10_reads bc bs 94 [some (vR (some x0)), some (vI x1), some (vI 0)] [] h K) ∧ (¬ (24 ≤ n5) → wpGR h (some x0) 9 3 (fun r6 => wpGI h (some x0) 9 5 (fun n7 => wpLI h r6 n7 (fun n8 => ((n8 ≠ 59 → Vx (d + 1) m_X10_reads bc bs 94 [some (vR (some x0)), some (vI x1), some (vI 0)] [] h K) ∧ (¬ (n8 ≠ 59) → wpCV h (some x0) 9 (fun b16 => Vm d m_X10_nextToken [vR (some b16)] h (kV (fun h9 => wpCV h9 (some x0) 9 (fun b15 => Vm d m_X10_readsClause [vR (some b15)] h9 (kI (fun n11 h10 => wpGI h10 (some x0) 9 10 (fun n12 => in32 (n12 + 1) ∧ wpP h10 (some x0) 9 10 (vI (n12 + 1)) (fun h14 => Vx (d + 1) m_X10_reads bc bs 94 [some (vR (some x0)), some (vI x1), some (vI n11)] [] h14 K))))))))))))))))))))))) : Vx (d + 1) m_X10_reads bc bs 94 [some (vR (some x0)), some (vI x1), some (vI x2)] [] h K := by
  refine rr_iload_n dX10_reads_94 rfl rfl ?_
  refine rr_if_eq (tgt := 164) dX10_reads_95 rfl (by decide) (fun hc95 => ?_) (fun hc95 => ?_)
  · have hh := hh.1 hc95
    refine rr_iload_n dX10_reads_164 rfl rfl ?_
    obtain ⟨hz1, hh⟩ := hh
    exact rr_zret dX10_reads_165 rfl (zn_b hz1) hh
  · have hh := hh.2 hc95
    refine rr_aload_n dX10_reads_98 rfl rfl ?_
    refine rr_getI cf_X10 (j := 5) (by decide) dX10_reads_99 rfl q_759 hh (fun n2 hh => ?_)
    refine rr_aload_n dX10_reads_102 rfl rfl ?_
    refine rr_getI cf_X10 (j := 4) (by decide) dX10_reads_103 rfl q_758 hh (fun n3 hh => ?_)
    refine rr_icmp_ge (tgt := 164) dX10_reads_106 rfl (by decide) (fun hc106 => ?_) (fun hc106 => ?_)
    · have hh := hh.1 hc106
      refine rr_iload_n dX10_reads_164 rfl rfl ?_
      obtain ⟨hz4, hh⟩ := hh
      exact rr_zret dX10_reads_165 rfl (zn_b hz4) hh
    · have hh := hh.2 hc106
      refine rr_aload_n dX10_reads_109 rfl rfl ?_
      refine rr_getI cf_X10 (j := 10) (by decide) dX10_reads_110 rfl q_764 hh (fun n5 hh => ?_)
      refine rr_bipush dX10_reads_113 rfl ⟨by decide, by decide⟩ rfl ?_
      refine rr_icmp_ge (tgt := 136) dX10_reads_115 rfl (by decide) (fun hc115 => ?_) (fun hc115 => ?_)
      · have hh := hh.1 hc115
        refine rr_iconst dX10_reads_136 rfl ⟨by decide, by decide⟩ ?_
        refine rr_istore_n (ls' := [some (vR (some x0)), some (vI x1), some (vI 0)]) dX10_reads_137 rfl (by decide) (fun _ z => by cases z) rfl ?_
        refine rr_iload_n dX10_reads_138 rfl rfl ?_
        refine rr_if_eq (tgt := 94) dX10_reads_139 rfl (by decide) (fun _ => ?_) (fun hc => absurd (by decide) hc)
        exact hh
      · have hh := hh.2 hc115
        refine rr_aload_n dX10_reads_118 rfl rfl ?_
        refine rr_getR cf_X10 (j := 3) (by decide) dX10_reads_119 rfl q_757 hh (fun r6 hh => ?_)
        refine rr_aload_n dX10_reads_122 rfl rfl ?_
        refine rr_getI cf_X10 (j := 5) (by decide) dX10_reads_123 rfl q_759 hh (fun n7 hh => ?_)
        refine rr_iald dX10_reads_126 rfl hh (fun n8 hh => ?_)
        refine rr_bipush dX10_reads_127 rfl ⟨by decide, by decide⟩ rfl ?_
        refine rr_icmp_ne (tgt := 136) dX10_reads_129 rfl (by decide) (fun hc129 => ?_) (fun hc129 => ?_)
        · have hh := hh.1 hc129
          refine rr_iconst dX10_reads_136 rfl ⟨by decide, by decide⟩ ?_
          refine rr_istore_n (ls' := [some (vR (some x0)), some (vI x1), some (vI 0)]) dX10_reads_137 rfl (by decide) (fun _ z => by cases z) rfl ?_
          refine rr_iload_n dX10_reads_138 rfl rfl ?_
          refine rr_if_eq (tgt := 94) dX10_reads_139 rfl (by decide) (fun _ => ?_) (fun hc => absurd (by decide) hc)
          exact hh
        · have hh := hh.2 hc129
          refine rr_iconst dX10_reads_132 rfl ⟨by decide, by decide⟩ ?_
          refine rr_goto (pc' := 137) dX10_reads_133 (by decide) ?_
          refine rr_istore_n (ls' := [some (vR (some x0)), some (vI x1), some (vI 1)]) dX10_reads_137 rfl (by decide) (fun _ z => by cases z) rfl ?_
          refine rr_iload_n dX10_reads_138 rfl rfl ?_
          refine rr_if_eq (tgt := 94) dX10_reads_139 rfl (by decide) (fun hc => absurd hc (by decide)) (fun _ => ?_)
          refine rr_aload_n dX10_reads_142 rfl rfl ?_
          refine rr_callW (bc' := bc) (bs' := bs) (q := (some x0)) (av := []) (st := []) mf_X10_nextToken dX10_reads_143 rfl q_852 q_854 qs_27 ⟨_, _, rfl⟩ rfl (by decide) (Nat.le_refl _) (Nat.le_refl _) hh (rr_kV fun h9 hh => ?_)
          refine rr_aload_n dX10_reads_146 rfl rfl ?_
          refine rr_callW (bc' := bc) (bs' := bs) (q := (some x0)) (av := []) (st := []) mf_X10_readsClause dX10_reads_147 rfl q_866 q_868 qs_28 ⟨_, _, rfl⟩ rfl (by decide) (Nat.le_refl _) (Nat.le_refl _) hh (rr_kI fun n11 h10 hh => ?_)
          refine rr_istore_n (ls' := [some (vR (some x0)), some (vI x1), some (vI n11)]) dX10_reads_150 rfl (by decide) (fun _ z => by cases z) rfl ?_
          refine rr_aload_n dX10_reads_151 rfl rfl ?_
          refine rr_dup dX10_reads_152 rfl rfl ?_
          refine rr_getI cf_X10 (j := 10) (by decide) dX10_reads_153 rfl q_764 hh (fun n12 hh => ?_)
          refine rr_iconst dX10_reads_156 rfl ⟨by decide, by decide⟩ ?_
          obtain ⟨hz13, hh⟩ := hh
          refine rr_iadd dX10_reads_157 rfl hz13 ?_
          refine rr_put cf_X10 (j := 10) (by decide) dX10_reads_158 rfl q_764 rfl (fty := .int) (by decide +kernel) rfl rfl hh (fun h14 hh => ?_)
          refine rr_goto (pc' := 94) dX10_reads_161 (by decide) ?_
          exact hh
theorem dX10_fault_0 : decode cX10_fault 0 = .ok (.aload_n 0, 1) := by decide +kernel
theorem dX10_fault_1 : decode cX10_fault 1 = .ok (.iconst 0, 1) := by decide +kernel
theorem dX10_fault_2 : decode cX10_fault 2 = .ok (.invokevirtual 162, 3) := by decide +kernel
theorem dX10_fault_5 : decode cX10_fault 5 = .ok (.ifCond .eq 7, 3) := by decide +kernel
theorem dX10_fault_8 : decode cX10_fault 8 = .ok (.iconst (-1), 1) := by decide +kernel
theorem dX10_fault_9 : decode cX10_fault 9 = .ok (.goto 7, 3) := by decide +kernel
theorem dX10_fault_12 : decode cX10_fault 12 = .ok (.aload_n 0, 1) := by decide +kernel
theorem dX10_fault_13 : decode cX10_fault 13 = .ok (.getfield 83, 3) := by decide +kernel
theorem dX10_fault_16 : decode cX10_fault 16 = .ok (.ireturn, 1) := by decide +kernel
set_option maxRecDepth 100000 in
theorem B_X10_fault_0 {d : Nat} {h : AbH} {K : Option AbV → AbH → Prop} {x0 : Nat} (hh : wpCV h (some x0) 9 (fun b4 => Vm d m_X10_reads [vR (some b4), vI 0] h (kI (fun n2 h1 => ((n2 = 0 → wpGI h1 (some x0) 9 5 (fun n3 => K (some (vI n3)) h1)) ∧ (¬ (n2 = 0) → K (some (vI (-1))) h1)))))) : Vx (d + 1) m_X10_fault 0 0 0 [some (vR (some x0))] [] h K := by
  refine rr_aload_n dX10_fault_0 rfl rfl ?_
  refine rr_iconst dX10_fault_1 rfl ⟨by decide, by decide⟩ ?_
  refine rr_callW (bc' := 0) (bs' := 0) (q := (some x0)) (av := [vI 0]) (st := []) mf_X10_reads dX10_fault_2 rfl q_840 q_842 qs_24 ⟨_, _, rfl⟩ rfl (by decide) (Nat.le_refl _) (Nat.le_refl _) hh (rr_kI fun n2 h1 hh => ?_)
  refine rr_if_eq (tgt := 12) dX10_fault_5 rfl (by decide) (fun hc5 => ?_) (fun hc5 => ?_)
  · have hh := hh.1 hc5
    refine rr_aload_n dX10_fault_12 rfl rfl ?_
    refine rr_getI cf_X10 (j := 5) (by decide) dX10_fault_13 rfl q_759 hh (fun n3 hh => ?_)
    exact rr_iret dX10_fault_16 rfl hh
  · have hh := hh.2 hc5
    refine rr_iconst dX10_fault_8 rfl ⟨by decide, by decide⟩ ?_
    refine rr_goto (pc' := 16) dX10_fault_9 (by decide) ?_
    exact rr_iret dX10_fault_16 rfl hh
theorem dX10_tell_0 : decode cX10_tell 0 = .ok (.aload_n 0, 1) := by decide +kernel
theorem dX10_tell_1 : decode cX10_tell 1 = .ok (.iconst 0, 1) := by decide +kernel
theorem dX10_tell_2 : decode cX10_tell 2 = .ok (.invokevirtual 162, 3) := by decide +kernel
theorem dX10_tell_5 : decode cX10_tell 5 = .ok (.ifCond .ne 6, 3) := by decide +kernel
theorem dX10_tell_8 : decode cX10_tell 8 = .ok (.bipush (-4), 2) := by decide +kernel
theorem dX10_tell_10 : decode cX10_tell 10 = .ok (.ireturn, 1) := by decide +kernel
theorem dX10_tell_11 : decode cX10_tell 11 = .ok (.aload_n 0, 1) := by decide +kernel
theorem dX10_tell_12 : decode cX10_tell 12 = .ok (.iconst 1, 1) := by decide +kernel
theorem dX10_tell_13 : decode cX10_tell 13 = .ok (.invokevirtual 162, 3) := by decide +kernel
theorem dX10_tell_16 : decode cX10_tell 16 = .ok (.pop, 1) := by decide +kernel
theorem dX10_tell_17 : decode cX10_tell 17 = .ok (.aload_n 0, 1) := by decide +kernel
theorem dX10_tell_18 : decode cX10_tell 18 = .ok (.iconst 0, 1) := by decide +kernel
theorem dX10_tell_19 : decode cX10_tell 19 = .ok (.putfield 68, 3) := by decide +kernel
theorem dX10_tell_22 : decode cX10_tell 22 = .ok (.aload_n 0, 1) := by decide +kernel
theorem dX10_tell_23 : decode cX10_tell 23 = .ok (.iconst 0, 1) := by decide +kernel
theorem dX10_tell_24 : decode cX10_tell 24 = .ok (.putfield 166, 3) := by decide +kernel
theorem dX10_tell_27 : decode cX10_tell 27 = .ok (.aload_n 0, 1) := by decide +kernel
theorem dX10_tell_28 : decode cX10_tell 28 = .ok (.getfield 153, 3) := by decide +kernel
theorem dX10_tell_31 : decode cX10_tell 31 = .ok (.ireturn, 1) := by decide +kernel
set_option maxRecDepth 100000 in
theorem B_X10_tell_0 {d : Nat} {h : AbH} {K : Option AbV → AbH → Prop} {x0 : Nat} (hh : wpCV h (some x0) 9 (fun b9 => Vm d m_X10_reads [vR (some b9), vI 0] h (kI (fun n2 h1 => ((n2 ≠ 0 → wpCV h1 (some x0) 9 (fun b8 => Vm d m_X10_reads [vR (some b8), vI 1] h1 (kI (fun n4 h3 => wpP h3 (some x0) 9 4 (vI 0) (fun h5 => wpP h5 (some x0) 9 1 (vI 0) (fun h6 => wpGI h6 (some x0) 9 10 (fun n7 => K (some (vI n7)) h6))))))) ∧ (¬ (n2 ≠ 0) → K (some (vI (-4))) h1)))))) : Vx (d + 1) m_X10_tell 0 0 0 [some (vR (some x0))] [] h K := by
  refine rr_aload_n dX10_tell_0 rfl rfl ?_
  refine rr_iconst dX10_tell_1 rfl ⟨by decide, by decide⟩ ?_
  refine rr_callW (bc' := 0) (bs' := 0) (q := (some x0)) (av := [vI 0]) (st := []) mf_X10_reads dX10_tell_2 rfl q_840 q_842 qs_24 ⟨_, _, rfl⟩ rfl (by decide) (Nat.le_refl _) (Nat.le_refl _) hh (rr_kI fun n2 h1 hh => ?_)
  refine rr_if_ne (tgt := 11) dX10_tell_5 rfl (by decide) (fun hc5 => ?_) (fun hc5 => ?_)
  · have hh := hh.1 hc5
    refine rr_aload_n dX10_tell_11 rfl rfl ?_
    refine rr_iconst dX10_tell_12 rfl ⟨by decide, by decide⟩ ?_
    refine rr_callW (bc' := 0) (bs' := 0) (q := (some x0)) (av := [vI 1]) (st := []) mf_X10_reads dX10_tell_13 rfl q_840 q_842 qs_24 ⟨_, _, rfl⟩ rfl (by decide) (Nat.le_refl _) (Nat.le_refl _) hh (rr_kI fun n4 h3 hh => ?_)
    refine rr_pop dX10_tell_16 rfl rfl ?_
    refine rr_aload_n dX10_tell_17 rfl rfl ?_
    refine rr_iconst dX10_tell_18 rfl ⟨by decide, by decide⟩ ?_
    refine rr_put cf_X10 (j := 4) (by decide) dX10_tell_19 rfl q_758 rfl (fty := .int) (by decide +kernel) rfl rfl hh (fun h5 hh => ?_)
    refine rr_aload_n dX10_tell_22 rfl rfl ?_
    refine rr_iconst dX10_tell_23 rfl ⟨by decide, by decide⟩ ?_
    refine rr_put cf_X10 (j := 1) (by decide) dX10_tell_24 rfl q_755 rfl (fty := .int) (by decide +kernel) rfl rfl hh (fun h6 hh => ?_)
    refine rr_aload_n dX10_tell_27 rfl rfl ?_
    refine rr_getI cf_X10 (j := 10) (by decide) dX10_tell_28 rfl q_764 hh (fun n7 hh => ?_)
    exact rr_iret dX10_tell_31 rfl hh
  · have hh := hh.2 hc5
    refine rr_bipush dX10_tell_8 rfl ⟨by decide, by decide⟩ rfl ?_
    exact rr_iret dX10_tell_10 rfl hh
theorem dX10_takesWord_0 : decode cX10_takesWord 0 = .ok (.aload_n 0, 1) := by decide +kernel
theorem dX10_takesWord_1 : decode cX10_takesWord 1 = .ok (.aload_n 0, 1) := by decide +kernel
theorem dX10_takesWord_2 : decode cX10_takesWord 2 = .ok (.getfield 7, 3) := by decide +kernel
theorem dX10_takesWord_5 : decode cX10_takesWord 5 = .ok (.iload_n 1, 1) := by decide +kernel
theorem dX10_takesWord_6 : decode cX10_takesWord 6 = .ok (.invokestatic 128, 3) := by decide +kernel
theorem dX10_takesWord_9 : decode cX10_takesWord 9 = .ok (.iconst 2, 1) := by decide +kernel
theorem dX10_takesWord_10 : decode cX10_takesWord 10 = .ok (.iadd, 1) := by decide +kernel
theorem dX10_takesWord_11 : decode cX10_takesWord 11 = .ok (.iaload, 1) := by decide +kernel
theorem dX10_takesWord_12 : decode cX10_takesWord 12 = .ok (.putfield 169, 3) := by decide +kernel
theorem dX10_takesWord_15 : decode cX10_takesWord 15 = .ok (.iconst 0, 1) := by decide +kernel
theorem dX10_takesWord_16 : decode cX10_takesWord 16 = .ok (.istore_n 2, 1) := by decide +kernel
theorem dX10_takesWord_17 : decode cX10_takesWord 17 = .ok (.iload_n 2, 1) := by decide +kernel
theorem dX10_takesWord_18 : decode cX10_takesWord 18 = .ok (.aload_n 0, 1) := by decide +kernel
theorem dX10_takesWord_19 : decode cX10_takesWord 19 = .ok (.getfield 169, 3) := by decide +kernel
theorem dX10_takesWord_22 : decode cX10_takesWord 22 = .ok (.if_icmp .ge 28, 3) := by decide +kernel
theorem dX10_takesWord_25 : decode cX10_takesWord 25 = .ok (.aload_n 0, 1) := by decide +kernel
theorem dX10_takesWord_26 : decode cX10_takesWord 26 = .ok (.getfield 29, 3) := by decide +kernel
theorem dX10_takesWord_29 : decode cX10_takesWord 29 = .ok (.iload_n 2, 1) := by decide +kernel
theorem dX10_takesWord_30 : decode cX10_takesWord 30 = .ok (.aload_n 0, 1) := by decide +kernel
theorem dX10_takesWord_31 : decode cX10_takesWord 31 = .ok (.getfield 7, 3) := by decide +kernel
theorem dX10_takesWord_34 : decode cX10_takesWord 34 = .ok (.iload_n 1, 1) := by decide +kernel
theorem dX10_takesWord_35 : decode cX10_takesWord 35 = .ok (.invokestatic 128, 3) := by decide +kernel
theorem dX10_takesWord_38 : decode cX10_takesWord 38 = .ok (.iconst 4, 1) := by decide +kernel
theorem dX10_takesWord_39 : decode cX10_takesWord 39 = .ok (.iadd, 1) := by decide +kernel
theorem dX10_takesWord_40 : decode cX10_takesWord 40 = .ok (.iload_n 2, 1) := by decide +kernel
theorem dX10_takesWord_41 : decode cX10_takesWord 41 = .ok (.iadd, 1) := by decide +kernel
theorem dX10_takesWord_42 : decode cX10_takesWord 42 = .ok (.iaload, 1) := by decide +kernel
theorem dX10_takesWord_43 : decode cX10_takesWord 43 = .ok (.iastore, 1) := by decide +kernel
theorem dX10_takesWord_44 : decode cX10_takesWord 44 = .ok (.iinc 2 1, 3) := by decide +kernel
theorem dX10_takesWord_47 : decode cX10_takesWord 47 = .ok (.goto (-30), 3) := by decide +kernel
theorem dX10_takesWord_50 : decode cX10_takesWord 50 = .ok (.return_, 1) := by decide +kernel
set_option maxRecDepth 100000 in
theorem B_X10_takesWord_0 {d : Nat} {h : AbH} {K : Option AbV → AbH → Prop} {x0 : Nat} {x1 : Int} (hh : wpGR h (some x0) 9 0 (fun r1 => Vm d m_X10_loanAt [vI x1] h (kI (fun n3 h2 => in32 (n3 + 2) ∧ wpLI h2 r1 (n3 + 2) (fun n5 => wpP h2 (some x0) 9 15 (vI n5) (fun h6 => Vx (d + 1) m_X10_takesWord 0 0 17 [some (vR (some x0)), some (vI x1), some (vI 0)] [] h6 K)))))) : Vx (d + 1) m_X10_takesWord 0 0 0 [some (vR (some x0)), some (vI x1)] [] h K := by
  refine Vx.pad 1 [some (vR (some x0)), some (vI x1), none] rfl ?_
  refine rr_aload_n dX10_takesWord_0 rfl rfl ?_
  refine rr_aload_n dX10_takesWord_1 rfl rfl ?_
  refine rr_getR cf_X10 (j := 0) (by decide) dX10_takesWord_2 rfl q_754 hh (fun r1 hh => ?_)
  refine rr_iload_n dX10_takesWord_5 rfl rfl ?_
  refine rr_callS (bc' := 0) (bs' := 0) (av := [vI x1]) (st := [vR r1, vR (some x0)]) mf_X10_loanAt dX10_takesWord_6 rfl q_918 q_919 rfl (cs_le _ (Nat.le_of_ble_eq_true rfl)) (Nat.le_refl _) (Nat.le_refl _) hh (rr_kI fun n3 h2 hh => ?_)
  refine rr_iconst dX10_takesWord_9 rfl ⟨by decide, by decide⟩ ?_
  obtain ⟨hz4, hh⟩ := hh
  refine rr_iadd dX10_takesWord_10 rfl hz4 ?_
  refine rr_iald dX10_takesWord_11 rfl hh (fun n5 hh => ?_)
  refine rr_put cf_X10 (j := 15) (by decide) dX10_takesWord_12 rfl q_769 rfl (fty := .int) (by decide +kernel) rfl rfl hh (fun h6 hh => ?_)
  refine rr_iconst dX10_takesWord_15 rfl ⟨by decide, by decide⟩ ?_
  refine rr_istore_n (ls' := [some (vR (some x0)), some (vI x1), some (vI 0)]) dX10_takesWord_16 rfl (by decide) (fun _ z => by cases z) rfl ?_
  exact hh
set_option maxRecDepth 100000 in
theorem B_X10_takesWord_17 {d : Nat} {h : AbH} {K : Option AbV → AbH → Prop} {x0 : Nat} {x1 : Int} {x2 : Int} {bc bs : Nat} (hh : wpGI h (some x0) 9 15 (fun n1 => ((n1 ≤ x2 → K none h) ∧ (¬ (n1 ≤ x2) → wpGR h (some x0) 9 14 (fun r2 => wpGR h (some x0) 9 0 (fun r3 => Vm d m_X10_loanAt [vI x1] h (kI (fun n5 h4 => in32 (n5 + 4) ∧ in32 ((n5 + 4) + x2) ∧ wpLI h4 r3 ((n5 + 4) + x2) (fun n8 => wpSI h4 r2 x2 n8 (fun h9 => in32 (x2 + 1) ∧ Vx (d + 1) m_X10_takesWord bc bs 17 [some (vR (some x0)), some (vI x1), some (vI (x2 + 1))] [] h9 K)))))))))) : Vx (d + 1) m_X10_takesWord bc bs 17 [some (vR (some x0)), some (vI x1), some (vI x2)] [] h K := by
  refine rr_iload_n dX10_takesWord_17 rfl rfl ?_
  refine rr_aload_n dX10_takesWord_18 rfl rfl ?_
  refine rr_getI cf_X10 (j := 15) (by decide) dX10_takesWord_19 rfl q_769 hh (fun n1 hh => ?_)
  refine rr_icmp_ge (tgt := 50) dX10_takesWord_22 rfl (by decide) (fun hc22 => ?_) (fun hc22 => ?_)
  · have hh := hh.1 hc22
    exact rr_vret dX10_takesWord_50 rfl hh
  · have hh := hh.2 hc22
    refine rr_aload_n dX10_takesWord_25 rfl rfl ?_
    refine rr_getR cf_X10 (j := 14) (by decide) dX10_takesWord_26 rfl q_768 hh (fun r2 hh => ?_)
    refine rr_iload_n dX10_takesWord_29 rfl rfl ?_
    refine rr_aload_n dX10_takesWord_30 rfl rfl ?_
    refine rr_getR cf_X10 (j := 0) (by decide) dX10_takesWord_31 rfl q_754 hh (fun r3 hh => ?_)
    refine rr_iload_n dX10_takesWord_34 rfl rfl ?_
    refine rr_callS (bc' := bc) (bs' := bs) (av := [vI x1]) (st := [vR r3, vI x2, vR r2]) mf_X10_loanAt dX10_takesWord_35 rfl q_918 q_919 rfl (cs_le _ (Nat.le_of_ble_eq_true rfl)) (Nat.le_refl _) (Nat.le_refl _) hh (rr_kI fun n5 h4 hh => ?_)
    refine rr_iconst dX10_takesWord_38 rfl ⟨by decide, by decide⟩ ?_
    obtain ⟨hz6, hh⟩ := hh
    refine rr_iadd dX10_takesWord_39 rfl hz6 ?_
    refine rr_iload_n dX10_takesWord_40 rfl rfl ?_
    obtain ⟨hz7, hh⟩ := hh
    refine rr_iadd dX10_takesWord_41 rfl hz7 ?_
    refine rr_iald dX10_takesWord_42 rfl hh (fun n8 hh => ?_)
    refine rr_iast dX10_takesWord_43 rfl hh (fun h9 hh => ?_)
    obtain ⟨hz10, hh⟩ := hh
    refine rr_iinc (ls' := [some (vR (some x0)), some (vI x1), some (vI (x2 + 1))]) dX10_takesWord_44 rfl rfl (by decide) (fun _ z => by cases z) hz10 rfl ?_
    refine rr_goto (pc' := 17) dX10_takesWord_47 (by decide) ?_
    exact hh
theorem dX10_isWhere_0 : decode cX10_isWhere 0 = .ok (.aload_n 0, 1) := by decide +kernel
theorem dX10_isWhere_1 : decode cX10_isWhere 1 = .ok (.iload_n 1, 1) := by decide +kernel
theorem dX10_isWhere_2 : decode cX10_isWhere 2 = .ok (.iconst 4, 1) := by decide +kernel
theorem dX10_isWhere_3 : decode cX10_isWhere 3 = .ok (.invokevirtual 156, 3) := by decide +kernel
theorem dX10_isWhere_6 : decode cX10_isWhere 6 = .ok (.istore 4, 2) := by decide +kernel
theorem dX10_isWhere_8 : decode cX10_isWhere 8 = .ok (.iload 4, 2) := by decide +kernel
theorem dX10_isWhere_10 : decode cX10_isWhere 10 = .ok (.ifCond .eq 60, 3) := by decide +kernel
theorem dX10_isWhere_13 : decode cX10_isWhere 13 = .ok (.iload 4, 2) := by decide +kernel
theorem dX10_isWhere_15 : decode cX10_isWhere 15 = .ok (.iconst 1, 1) := by decide +kernel
theorem dX10_isWhere_16 : decode cX10_isWhere 16 = .ok (.if_icmp .ne 27, 3) := by decide +kernel
theorem dX10_isWhere_19 : decode cX10_isWhere 19 = .ok (.iload_n 2, 1) := by decide +kernel
theorem dX10_isWhere_20 : decode cX10_isWhere 20 = .ok (.iconst 1, 1) := by decide +kernel
theorem dX10_isWhere_21 : decode cX10_isWhere 21 = .ok (.iadd, 1) := by decide +kernel
theorem dX10_isWhere_22 : decode cX10_isWhere 22 = .ok (.iload_n 3, 1) := by decide +kernel
theorem dX10_isWhere_23 : decode cX10_isWhere 23 = .ok (.if_icmp .ge 20, 3) := by decide +kernel
theorem dX10_isWhere_26 : decode cX10_isWhere 26 = .ok (.aload_n 0, 1) := by decide +kernel
theorem dX10_isWhere_27 : decode cX10_isWhere 27 = .ok (.getfield 32, 3) := by decide +kernel
theorem dX10_isWhere_30 : decode cX10_isWhere 30 = .ok (.iload_n 2, 1) := by decide +kernel
theorem dX10_isWhere_31 : decode cX10_isWhere 31 = .ok (.iconst 1, 1) := by decide +kernel
theorem dX10_isWhere_32 : decode cX10_isWhere 32 = .ok (.iadd, 1) := by decide +kernel
theorem dX10_isWhere_33 : decode cX10_isWhere 33 = .ok (.iaload, 1) := by decide +kernel
theorem dX10_isWhere_34 : decode cX10_isWhere 34 = .ok (.aload_n 0, 1) := by decide +kernel
theorem dX10_isWhere_35 : decode cX10_isWhere 35 = .ok (.iload_n 1, 1) := by decide +kernel
theorem dX10_isWhere_36 : decode cX10_isWhere 36 = .ok (.iconst 5, 1) := by decide +kernel
theorem dX10_isWhere_37 : decode cX10_isWhere 37 = .ok (.invokevirtual 156, 3) := by decide +kernel
theorem dX10_isWhere_40 : decode cX10_isWhere 40 = .ok (.if_icmp .eq 30, 3) := by decide +kernel
theorem dX10_isWhere_43 : decode cX10_isWhere 43 = .ok (.iload 4, 2) := by decide +kernel
theorem dX10_isWhere_45 : decode cX10_isWhere 45 = .ok (.iconst 2, 1) := by decide +kernel
theorem dX10_isWhere_46 : decode cX10_isWhere 46 = .ok (.if_icmp .ne 28, 3) := by decide +kernel
theorem dX10_isWhere_49 : decode cX10_isWhere 49 = .ok (.iload_n 2, 1) := by decide +kernel
theorem dX10_isWhere_50 : decode cX10_isWhere 50 = .ok (.ifCond .le 24, 3) := by decide +kernel
theorem dX10_isWhere_53 : decode cX10_isWhere 53 = .ok (.aload_n 0, 1) := by decide +kernel
theorem dX10_isWhere_54 : decode cX10_isWhere 54 = .ok (.getfield 32, 3) := by decide +kernel
theorem dX10_isWhere_57 : decode cX10_isWhere 57 = .ok (.iload_n 2, 1) := by decide +kernel
theorem dX10_isWhere_58 : decode cX10_isWhere 58 = .ok (.iconst 1, 1) := by decide +kernel
theorem dX10_isWhere_59 : decode cX10_isWhere 59 = .ok (.isub, 1) := by decide +kernel
theorem dX10_isWhere_60 : decode cX10_isWhere 60 = .ok (.iaload, 1) := by decide +kernel
theorem dX10_isWhere_61 : decode cX10_isWhere 61 = .ok (.aload_n 0, 1) := by decide +kernel
theorem dX10_isWhere_62 : decode cX10_isWhere 62 = .ok (.iload_n 1, 1) := by decide +kernel
theorem dX10_isWhere_63 : decode cX10_isWhere 63 = .ok (.iconst 5, 1) := by decide +kernel
theorem dX10_isWhere_64 : decode cX10_isWhere 64 = .ok (.invokevirtual 156, 3) := by decide +kernel
theorem dX10_isWhere_67 : decode cX10_isWhere 67 = .ok (.if_icmp .ne 7, 3) := by decide +kernel
theorem dX10_isWhere_70 : decode cX10_isWhere 70 = .ok (.iconst 1, 1) := by decide +kernel
theorem dX10_isWhere_71 : decode cX10_isWhere 71 = .ok (.goto 4, 3) := by decide +kernel
theorem dX10_isWhere_74 : decode cX10_isWhere 74 = .ok (.iconst 0, 1) := by decide +kernel
theorem dX10_isWhere_75 : decode cX10_isWhere 75 = .ok (.ireturn, 1) := by decide +kernel
set_option maxRecDepth 100000 in
theorem B_X10_isWhere_0 {d : Nat} {h : AbH} {K : Option AbV → AbH → Prop} {x0 : Nat} {x1 : Int} {x2 : Int} {x3 : Int} (hh : wpCV h (some x0) 9 (fun b28 => Vm d m_X10_lawOf [vR (some b28), vI x1, vI 4] h (kI (fun n2 h1 => ((n2 = 0 → K (some (vI 1)) h1) ∧ (¬ (n2 = 0) → ((n2 ≠ 1 → ((n2 ≠ 2 → K (some (vI 0)) h1) ∧ (¬ (n2 ≠ 2) → ((x2 ≤ 0 → K (some (vI 0)) h1) ∧ (¬ (x2 ≤ 0) → wpGR h1 (some x0) 9 16 (fun r3 => in32 (x2 - 1) ∧ wpLI h1 r3 (x2 - 1) (fun n5 => wpCV h1 (some x0) 9 (fun b8 => Vm d m_X10_lawOf [vR (some b8), vI x1, vI 5] h1 (kI (fun n7 h6 => ((n5 ≠ n7 → K (some (vI 0)) h6) ∧ (¬ (n5 ≠ n7) → K (some (vI 1)) h6)))))))))))) ∧ (¬ (n2 ≠ 1) → in32 (x2 + 1) ∧ ((x3 ≤ (x2 + 1) → ((n2 ≠ 2 → K (some (vI 0)) h1) ∧ (¬ (n2 ≠ 2) → ((x2 ≤ 0 → K (some (vI 0)) h1) ∧ (¬ (x2 ≤ 0) → wpGR h1 (some x0) 9 16 (fun r10 => in32 (x2 - 1) ∧ wpLI h1 r10 (x2 - 1) (fun n12 => wpCV h1 (some x0) 9 (fun b15 => Vm d m_X10_lawOf [vR (some b15), vI x1, vI 5] h1 (kI (fun n14 h13 => ((n12 ≠ n14 → K (some (vI 0)) h13) ∧ (¬ (n12 ≠ n14) → K (some (vI 1)) h13)))))))))))) ∧ (¬ (x3 ≤ (x2 + 1)) → wpGR h1 (some x0) 9 16 (fun r16 => in32 (x2 + 1) ∧ wpLI h1 r16 (x2 + 1) (fun n18 => wpCV h1 (some x0) 9 (fun b27 => Vm d m_X10_lawOf [vR (some b27), vI x1, vI 5] h1 (kI (fun n20 h19 => ((n18 = n20 → K (some (vI 1)) h19) ∧ (¬ (n18 = n20) → ((n2 ≠ 2 → K (some (vI 0)) h19) ∧ (¬ (n2 ≠ 2) → ((x2 ≤ 0 → K (some (vI 0)) h19) ∧ (¬ (x2 ≤ 0) → wpGR h19 (some x0) 9 16 (fun r21 => in32 (x2 - 1) ∧ wpLI h19 r21 (x2 - 1) (fun n23 => wpCV h19 (some x0) 9 (fun b26 => Vm d m_X10_lawOf [vR (some b26), vI x1, vI 5] h19 (kI (fun n25 h24 => ((n23 ≠ n25 → K (some (vI 0)) h24) ∧ (¬ (n23 ≠ n25) → K (some (vI 1)) h24)))))))))))))))))))))))))))) : Vx (d + 1) m_X10_isWhere 0 0 0 [some (vR (some x0)), some (vI x1), some (vI x2), some (vI x3)] [] h K := by
  refine Vx.pad 1 [some (vR (some x0)), some (vI x1), some (vI x2), some (vI x3), none] rfl ?_
  refine rr_aload_n dX10_isWhere_0 rfl rfl ?_
  refine rr_iload_n dX10_isWhere_1 rfl rfl ?_
  refine rr_iconst dX10_isWhere_2 rfl ⟨by decide, by decide⟩ ?_
  refine rr_callW (bc' := 0) (bs' := 0) (q := (some x0)) (av := [vI x1, vI 4]) (st := []) mf_X10_lawOf dX10_isWhere_3 rfl q_848 q_850 qs_26 ⟨_, _, rfl⟩ rfl (by decide) (Nat.le_refl _) (Nat.le_refl _) hh (rr_kI fun n2 h1 hh => ?_)
  refine rr_istore (ls' := [some (vR (some x0)), some (vI x1), some (vI x2), some (vI x3), some (vI n2)]) dX10_isWhere_6 rfl (by decide) (fun _ z => by cases z) rfl ?_
  refine rr_iload dX10_isWhere_8 rfl rfl ?_
  refine rr_if_eq (tgt := 70) dX10_isWhere_10 rfl (by decide) (fun hc10 => ?_) (fun hc10 => ?_)
  · have hh := hh.1 hc10
    refine rr_iconst dX10_isWhere_70 rfl ⟨by decide, by decide⟩ ?_
    refine rr_goto (pc' := 75) dX10_isWhere_71 (by decide) ?_
    exact rr_zret dX10_isWhere_75 rfl rfl hh
  · have hh := hh.2 hc10
    refine rr_iload dX10_isWhere_13 rfl rfl ?_
    refine rr_iconst dX10_isWhere_15 rfl ⟨by decide, by decide⟩ ?_
    refine rr_icmp_ne (tgt := 43) dX10_isWhere_16 rfl (by decide) (fun hc16 => ?_) (fun hc16 => ?_)
    · have hh := hh.1 hc16
      refine rr_iload dX10_isWhere_43 rfl rfl ?_
      refine rr_iconst dX10_isWhere_45 rfl ⟨by decide, by decide⟩ ?_
      refine rr_icmp_ne (tgt := 74) dX10_isWhere_46 rfl (by decide) (fun hc46 => ?_) (fun hc46 => ?_)
      · have hh := hh.1 hc46
        refine rr_iconst dX10_isWhere_74 rfl ⟨by decide, by decide⟩ ?_
        exact rr_zret dX10_isWhere_75 rfl rfl hh
      · have hh := hh.2 hc46
        refine rr_iload_n dX10_isWhere_49 rfl rfl ?_
        refine rr_if_le (tgt := 74) dX10_isWhere_50 rfl (by decide) (fun hc50 => ?_) (fun hc50 => ?_)
        · have hh := hh.1 hc50
          refine rr_iconst dX10_isWhere_74 rfl ⟨by decide, by decide⟩ ?_
          exact rr_zret dX10_isWhere_75 rfl rfl hh
        · have hh := hh.2 hc50
          refine rr_aload_n dX10_isWhere_53 rfl rfl ?_
          refine rr_getR cf_X10 (j := 16) (by decide) dX10_isWhere_54 rfl q_770 hh (fun r3 hh => ?_)
          refine rr_iload_n dX10_isWhere_57 rfl rfl ?_
          refine rr_iconst dX10_isWhere_58 rfl ⟨by decide, by decide⟩ ?_
          obtain ⟨hz4, hh⟩ := hh
          refine rr_isub dX10_isWhere_59 rfl hz4 ?_
          refine rr_iald dX10_isWhere_60 rfl hh (fun n5 hh => ?_)
          refine rr_aload_n dX10_isWhere_61 rfl rfl ?_
          refine rr_iload_n dX10_isWhere_62 rfl rfl ?_
          refine rr_iconst dX10_isWhere_63 rfl ⟨by decide, by decide⟩ ?_
          refine rr_callW (bc' := 0) (bs' := 0) (q := (some x0)) (av := [vI x1, vI 5]) (st := [vI n5]) mf_X10_lawOf dX10_isWhere_64 rfl q_848 q_850 qs_26 ⟨_, _, rfl⟩ rfl (show 1 ≤ 8 by decide) (Nat.le_refl _) (Nat.le_refl _) hh (rr_kI fun n7 h6 hh => ?_)
          refine rr_icmp_ne (tgt := 74) dX10_isWhere_67 rfl (by decide) (fun hc67 => ?_) (fun hc67 => ?_)
          · have hh := hh.1 hc67
            refine rr_iconst dX10_isWhere_74 rfl ⟨by decide, by decide⟩ ?_
            exact rr_zret dX10_isWhere_75 rfl rfl hh
          · have hh := hh.2 hc67
            refine rr_iconst dX10_isWhere_70 rfl ⟨by decide, by decide⟩ ?_
            refine rr_goto (pc' := 75) dX10_isWhere_71 (by decide) ?_
            exact rr_zret dX10_isWhere_75 rfl rfl hh
    · have hh := hh.2 hc16
      refine rr_iload_n dX10_isWhere_19 rfl rfl ?_
      refine rr_iconst dX10_isWhere_20 rfl ⟨by decide, by decide⟩ ?_
      obtain ⟨hz9, hh⟩ := hh
      refine rr_iadd dX10_isWhere_21 rfl hz9 ?_
      refine rr_iload_n dX10_isWhere_22 rfl rfl ?_
      refine rr_icmp_ge (tgt := 43) dX10_isWhere_23 rfl (by decide) (fun hc23 => ?_) (fun hc23 => ?_)
      · have hh := hh.1 hc23
        refine rr_iload dX10_isWhere_43 rfl rfl ?_
        refine rr_iconst dX10_isWhere_45 rfl ⟨by decide, by decide⟩ ?_
        refine rr_icmp_ne (tgt := 74) dX10_isWhere_46 rfl (by decide) (fun hc46 => ?_) (fun hc46 => ?_)
        · have hh := hh.1 hc46
          refine rr_iconst dX10_isWhere_74 rfl ⟨by decide, by decide⟩ ?_
          exact rr_zret dX10_isWhere_75 rfl rfl hh
        · have hh := hh.2 hc46
          refine rr_iload_n dX10_isWhere_49 rfl rfl ?_
          refine rr_if_le (tgt := 74) dX10_isWhere_50 rfl (by decide) (fun hc50 => ?_) (fun hc50 => ?_)
          · have hh := hh.1 hc50
            refine rr_iconst dX10_isWhere_74 rfl ⟨by decide, by decide⟩ ?_
            exact rr_zret dX10_isWhere_75 rfl rfl hh
          · have hh := hh.2 hc50
            refine rr_aload_n dX10_isWhere_53 rfl rfl ?_
            refine rr_getR cf_X10 (j := 16) (by decide) dX10_isWhere_54 rfl q_770 hh (fun r10 hh => ?_)
            refine rr_iload_n dX10_isWhere_57 rfl rfl ?_
            refine rr_iconst dX10_isWhere_58 rfl ⟨by decide, by decide⟩ ?_
            obtain ⟨hz11, hh⟩ := hh
            refine rr_isub dX10_isWhere_59 rfl hz11 ?_
            refine rr_iald dX10_isWhere_60 rfl hh (fun n12 hh => ?_)
            refine rr_aload_n dX10_isWhere_61 rfl rfl ?_
            refine rr_iload_n dX10_isWhere_62 rfl rfl ?_
            refine rr_iconst dX10_isWhere_63 rfl ⟨by decide, by decide⟩ ?_
            refine rr_callW (bc' := 0) (bs' := 0) (q := (some x0)) (av := [vI x1, vI 5]) (st := [vI n12]) mf_X10_lawOf dX10_isWhere_64 rfl q_848 q_850 qs_26 ⟨_, _, rfl⟩ rfl (show 1 ≤ 8 by decide) (Nat.le_refl _) (Nat.le_refl _) hh (rr_kI fun n14 h13 hh => ?_)
            refine rr_icmp_ne (tgt := 74) dX10_isWhere_67 rfl (by decide) (fun hc67 => ?_) (fun hc67 => ?_)
            · have hh := hh.1 hc67
              refine rr_iconst dX10_isWhere_74 rfl ⟨by decide, by decide⟩ ?_
              exact rr_zret dX10_isWhere_75 rfl rfl hh
            · have hh := hh.2 hc67
              refine rr_iconst dX10_isWhere_70 rfl ⟨by decide, by decide⟩ ?_
              refine rr_goto (pc' := 75) dX10_isWhere_71 (by decide) ?_
              exact rr_zret dX10_isWhere_75 rfl rfl hh
      · have hh := hh.2 hc23
        refine rr_aload_n dX10_isWhere_26 rfl rfl ?_
        refine rr_getR cf_X10 (j := 16) (by decide) dX10_isWhere_27 rfl q_770 hh (fun r16 hh => ?_)
        refine rr_iload_n dX10_isWhere_30 rfl rfl ?_
        refine rr_iconst dX10_isWhere_31 rfl ⟨by decide, by decide⟩ ?_
        obtain ⟨hz17, hh⟩ := hh
        refine rr_iadd dX10_isWhere_32 rfl hz17 ?_
        refine rr_iald dX10_isWhere_33 rfl hh (fun n18 hh => ?_)
        refine rr_aload_n dX10_isWhere_34 rfl rfl ?_
        refine rr_iload_n dX10_isWhere_35 rfl rfl ?_
        refine rr_iconst dX10_isWhere_36 rfl ⟨by decide, by decide⟩ ?_
        refine rr_callW (bc' := 0) (bs' := 0) (q := (some x0)) (av := [vI x1, vI 5]) (st := [vI n18]) mf_X10_lawOf dX10_isWhere_37 rfl q_848 q_850 qs_26 ⟨_, _, rfl⟩ rfl (show 1 ≤ 8 by decide) (Nat.le_refl _) (Nat.le_refl _) hh (rr_kI fun n20 h19 hh => ?_)
        refine rr_icmp_eq (tgt := 70) dX10_isWhere_40 rfl (by decide) (fun hc40 => ?_) (fun hc40 => ?_)
        · have hh := hh.1 hc40
          refine rr_iconst dX10_isWhere_70 rfl ⟨by decide, by decide⟩ ?_
          refine rr_goto (pc' := 75) dX10_isWhere_71 (by decide) ?_
          exact rr_zret dX10_isWhere_75 rfl rfl hh
        · have hh := hh.2 hc40
          refine rr_iload dX10_isWhere_43 rfl rfl ?_
          refine rr_iconst dX10_isWhere_45 rfl ⟨by decide, by decide⟩ ?_
          refine rr_icmp_ne (tgt := 74) dX10_isWhere_46 rfl (by decide) (fun hc46 => ?_) (fun hc46 => ?_)
          · have hh := hh.1 hc46
            refine rr_iconst dX10_isWhere_74 rfl ⟨by decide, by decide⟩ ?_
            exact rr_zret dX10_isWhere_75 rfl rfl hh
          · have hh := hh.2 hc46
            refine rr_iload_n dX10_isWhere_49 rfl rfl ?_
            refine rr_if_le (tgt := 74) dX10_isWhere_50 rfl (by decide) (fun hc50 => ?_) (fun hc50 => ?_)
            · have hh := hh.1 hc50
              refine rr_iconst dX10_isWhere_74 rfl ⟨by decide, by decide⟩ ?_
              exact rr_zret dX10_isWhere_75 rfl rfl hh
            · have hh := hh.2 hc50
              refine rr_aload_n dX10_isWhere_53 rfl rfl ?_
              refine rr_getR cf_X10 (j := 16) (by decide) dX10_isWhere_54 rfl q_770 hh (fun r21 hh => ?_)
              refine rr_iload_n dX10_isWhere_57 rfl rfl ?_
              refine rr_iconst dX10_isWhere_58 rfl ⟨by decide, by decide⟩ ?_
              obtain ⟨hz22, hh⟩ := hh
              refine rr_isub dX10_isWhere_59 rfl hz22 ?_
              refine rr_iald dX10_isWhere_60 rfl hh (fun n23 hh => ?_)
              refine rr_aload_n dX10_isWhere_61 rfl rfl ?_
              refine rr_iload_n dX10_isWhere_62 rfl rfl ?_
              refine rr_iconst dX10_isWhere_63 rfl ⟨by decide, by decide⟩ ?_
              refine rr_callW (bc' := 0) (bs' := 0) (q := (some x0)) (av := [vI x1, vI 5]) (st := [vI n23]) mf_X10_lawOf dX10_isWhere_64 rfl q_848 q_850 qs_26 ⟨_, _, rfl⟩ rfl (show 1 ≤ 8 by decide) (Nat.le_refl _) (Nat.le_refl _) hh (rr_kI fun n25 h24 hh => ?_)
              refine rr_icmp_ne (tgt := 74) dX10_isWhere_67 rfl (by decide) (fun hc67 => ?_) (fun hc67 => ?_)
              · have hh := hh.1 hc67
                refine rr_iconst dX10_isWhere_74 rfl ⟨by decide, by decide⟩ ?_
                exact rr_zret dX10_isWhere_75 rfl rfl hh
              · have hh := hh.2 hc67
                refine rr_iconst dX10_isWhere_70 rfl ⟨by decide, by decide⟩ ?_
                refine rr_goto (pc' := 75) dX10_isWhere_71 (by decide) ?_
                exact rr_zret dX10_isWhere_75 rfl rfl hh
theorem dX10_hits_0 : decode cX10_hits 0 = .ok (.aload_n 0, 1) := by decide +kernel
theorem dX10_hits_1 : decode cX10_hits 1 = .ok (.getfield 169, 3) := by decide +kernel
theorem dX10_hits_4 : decode cX10_hits 4 = .ok (.istore_n 2, 1) := by decide +kernel
theorem dX10_hits_5 : decode cX10_hits 5 = .ok (.iconst 0, 1) := by decide +kernel
theorem dX10_hits_6 : decode cX10_hits 6 = .ok (.istore_n 3, 1) := by decide +kernel
theorem dX10_hits_7 : decode cX10_hits 7 = .ok (.iload_n 3, 1) := by decide +kernel
theorem dX10_hits_8 : decode cX10_hits 8 = .ok (.iload_n 2, 1) := by decide +kernel
theorem dX10_hits_9 : decode cX10_hits 9 = .ok (.if_icmp .ge 21, 3) := by decide +kernel
theorem dX10_hits_12 : decode cX10_hits 12 = .ok (.aload_n 0, 1) := by decide +kernel
theorem dX10_hits_13 : decode cX10_hits 13 = .ok (.getfield 32, 3) := by decide +kernel
theorem dX10_hits_16 : decode cX10_hits 16 = .ok (.iload_n 3, 1) := by decide +kernel
theorem dX10_hits_17 : decode cX10_hits 17 = .ok (.aload_n 0, 1) := by decide +kernel
theorem dX10_hits_18 : decode cX10_hits 18 = .ok (.getfield 29, 3) := by decide +kernel
theorem dX10_hits_21 : decode cX10_hits 21 = .ok (.iload_n 3, 1) := by decide +kernel
theorem dX10_hits_22 : decode cX10_hits 22 = .ok (.iaload, 1) := by decide +kernel
theorem dX10_hits_23 : decode cX10_hits 23 = .ok (.iastore, 1) := by decide +kernel
theorem dX10_hits_24 : decode cX10_hits 24 = .ok (.iinc 3 1, 3) := by decide +kernel
theorem dX10_hits_27 : decode cX10_hits 27 = .ok (.goto (-20), 3) := by decide +kernel
theorem dX10_hits_30 : decode cX10_hits 30 = .ok (.aload_n 0, 1) := by decide +kernel
theorem dX10_hits_31 : decode cX10_hits 31 = .ok (.iconst 0, 1) := by decide +kernel
theorem dX10_hits_32 : decode cX10_hits 32 = .ok (.putfield 169, 3) := by decide +kernel
theorem dX10_hits_35 : decode cX10_hits 35 = .ok (.iconst 0, 1) := by decide +kernel
theorem dX10_hits_36 : decode cX10_hits 36 = .ok (.istore_n 3, 1) := by decide +kernel
theorem dX10_hits_37 : decode cX10_hits 37 = .ok (.iconst 0, 1) := by decide +kernel
theorem dX10_hits_38 : decode cX10_hits 38 = .ok (.istore 4, 2) := by decide +kernel
theorem dX10_hits_40 : decode cX10_hits 40 = .ok (.iload 4, 2) := by decide +kernel
theorem dX10_hits_42 : decode cX10_hits 42 = .ok (.iload_n 2, 1) := by decide +kernel
theorem dX10_hits_43 : decode cX10_hits 43 = .ok (.if_icmp .ge 108, 3) := by decide +kernel
theorem dX10_hits_46 : decode cX10_hits 46 = .ok (.aload_n 0, 1) := by decide +kernel
theorem dX10_hits_47 : decode cX10_hits 47 = .ok (.getfield 32, 3) := by decide +kernel
theorem dX10_hits_50 : decode cX10_hits 50 = .ok (.iload 4, 2) := by decide +kernel
theorem dX10_hits_52 : decode cX10_hits 52 = .ok (.iaload, 1) := by decide +kernel
theorem dX10_hits_53 : decode cX10_hits 53 = .ok (.aload_n 0, 1) := by decide +kernel
theorem dX10_hits_54 : decode cX10_hits 54 = .ok (.iload_n 1, 1) := by decide +kernel
theorem dX10_hits_55 : decode cX10_hits 55 = .ok (.iconst 2, 1) := by decide +kernel
theorem dX10_hits_56 : decode cX10_hits 56 = .ok (.invokevirtual 156, 3) := by decide +kernel
theorem dX10_hits_59 : decode cX10_hits 59 = .ok (.if_icmp .ne 18, 3) := by decide +kernel
theorem dX10_hits_62 : decode cX10_hits 62 = .ok (.aload_n 0, 1) := by decide +kernel
theorem dX10_hits_63 : decode cX10_hits 63 = .ok (.iload_n 1, 1) := by decide +kernel
theorem dX10_hits_64 : decode cX10_hits 64 = .ok (.iload 4, 2) := by decide +kernel
theorem dX10_hits_66 : decode cX10_hits 66 = .ok (.iload_n 2, 1) := by decide +kernel
theorem dX10_hits_67 : decode cX10_hits 67 = .ok (.invokevirtual 172, 3) := by decide +kernel
theorem dX10_hits_70 : decode cX10_hits 70 = .ok (.ifCond .eq 7, 3) := by decide +kernel
theorem dX10_hits_73 : decode cX10_hits 73 = .ok (.iconst 1, 1) := by decide +kernel
theorem dX10_hits_74 : decode cX10_hits 74 = .ok (.goto 4, 3) := by decide +kernel
theorem dX10_hits_77 : decode cX10_hits 77 = .ok (.iconst 0, 1) := by decide +kernel
theorem dX10_hits_78 : decode cX10_hits 78 = .ok (.istore 5, 2) := by decide +kernel
theorem dX10_hits_80 : decode cX10_hits 80 = .ok (.iload_n 3, 1) := by decide +kernel
theorem dX10_hits_81 : decode cX10_hits 81 = .ok (.ifCond .ne 8, 3) := by decide +kernel
theorem dX10_hits_84 : decode cX10_hits 84 = .ok (.iload 5, 2) := by decide +kernel
theorem dX10_hits_86 : decode cX10_hits 86 = .ok (.ifCond .eq 7, 3) := by decide +kernel
theorem dX10_hits_89 : decode cX10_hits 89 = .ok (.iconst 1, 1) := by decide +kernel
theorem dX10_hits_90 : decode cX10_hits 90 = .ok (.goto 4, 3) := by decide +kernel
theorem dX10_hits_93 : decode cX10_hits 93 = .ok (.iconst 0, 1) := by decide +kernel
theorem dX10_hits_94 : decode cX10_hits 94 = .ok (.istore_n 3, 1) := by decide +kernel
theorem dX10_hits_95 : decode cX10_hits 95 = .ok (.iload 5, 2) := by decide +kernel
theorem dX10_hits_97 : decode cX10_hits 97 = .ok (.ifCond .eq 12, 3) := by decide +kernel
theorem dX10_hits_100 : decode cX10_hits 100 = .ok (.aload_n 0, 1) := by decide +kernel
theorem dX10_hits_101 : decode cX10_hits 101 = .ok (.iload_n 1, 1) := by decide +kernel
theorem dX10_hits_102 : decode cX10_hits 102 = .ok (.iconst 3, 1) := by decide +kernel
theorem dX10_hits_103 : decode cX10_hits 103 = .ok (.invokevirtual 156, 3) := by decide +kernel
theorem dX10_hits_106 : decode cX10_hits 106 = .ok (.goto 10, 3) := by decide +kernel
theorem dX10_hits_109 : decode cX10_hits 109 = .ok (.aload_n 0, 1) := by decide +kernel
theorem dX10_hits_110 : decode cX10_hits 110 = .ok (.getfield 32, 3) := by decide +kernel
theorem dX10_hits_113 : decode cX10_hits 113 = .ok (.iload 4, 2) := by decide +kernel
theorem dX10_hits_115 : decode cX10_hits 115 = .ok (.iaload, 1) := by decide +kernel
theorem dX10_hits_116 : decode cX10_hits 116 = .ok (.istore 6, 2) := by decide +kernel
theorem dX10_hits_118 : decode cX10_hits 118 = .ok (.iload 6, 2) := by decide +kernel
theorem dX10_hits_120 : decode cX10_hits 120 = .ok (.iconst (-1), 1) := by decide +kernel
theorem dX10_hits_121 : decode cX10_hits 121 = .ok (.if_icmp .eq 24, 3) := by decide +kernel
theorem dX10_hits_124 : decode cX10_hits 124 = .ok (.aload_n 0, 1) := by decide +kernel
theorem dX10_hits_125 : decode cX10_hits 125 = .ok (.getfield 29, 3) := by decide +kernel
theorem dX10_hits_128 : decode cX10_hits 128 = .ok (.aload_n 0, 1) := by decide +kernel
theorem dX10_hits_129 : decode cX10_hits 129 = .ok (.getfield 169, 3) := by decide +kernel
theorem dX10_hits_132 : decode cX10_hits 132 = .ok (.iload 6, 2) := by decide +kernel
theorem dX10_hits_134 : decode cX10_hits 134 = .ok (.iastore, 1) := by decide +kernel
theorem dX10_hits_135 : decode cX10_hits 135 = .ok (.aload_n 0, 1) := by decide +kernel
theorem dX10_hits_136 : decode cX10_hits 136 = .ok (.dup, 1) := by decide +kernel
theorem dX10_hits_137 : decode cX10_hits 137 = .ok (.getfield 169, 3) := by decide +kernel
theorem dX10_hits_140 : decode cX10_hits 140 = .ok (.iconst 1, 1) := by decide +kernel
theorem dX10_hits_141 : decode cX10_hits 141 = .ok (.iadd, 1) := by decide +kernel
theorem dX10_hits_142 : decode cX10_hits 142 = .ok (.putfield 169, 3) := by decide +kernel
theorem dX10_hits_145 : decode cX10_hits 145 = .ok (.iinc 4 1, 3) := by decide +kernel
theorem dX10_hits_148 : decode cX10_hits 148 = .ok (.goto (-108), 3) := by decide +kernel
theorem dX10_hits_151 : decode cX10_hits 151 = .ok (.iload_n 3, 1) := by decide +kernel
theorem dX10_hits_152 : decode cX10_hits 152 = .ok (.ireturn, 1) := by decide +kernel
set_option maxRecDepth 100000 in
theorem B_X10_hits_0 {d : Nat} {h : AbH} {K : Option AbV → AbH → Prop} {x0 : Nat} {x1 : Int} (hh : wpGI h (some x0) 9 15 (fun n1 => Vx (d + 1) m_X10_hits 0 0 7 [some (vR (some x0)), some (vI x1), some (vI n1), some (vI 0), none, none, none] [] h K)) : Vx (d + 1) m_X10_hits 0 0 0 [some (vR (some x0)), some (vI x1)] [] h K := by
  refine Vx.pad 5 [some (vR (some x0)), some (vI x1), none, none, none, none, none] rfl ?_
  refine rr_aload_n dX10_hits_0 rfl rfl ?_
  refine rr_getI cf_X10 (j := 15) (by decide) dX10_hits_1 rfl q_769 hh (fun n1 hh => ?_)
  refine rr_istore_n (ls' := [some (vR (some x0)), some (vI x1), some (vI n1), none, none, none, none]) dX10_hits_4 rfl (by decide) (fun _ z => by cases z) rfl ?_
  refine rr_iconst dX10_hits_5 rfl ⟨by decide, by decide⟩ ?_
  refine rr_istore_n (ls' := [some (vR (some x0)), some (vI x1), some (vI n1), some (vI 0), none, none, none]) dX10_hits_6 rfl (by decide) (fun _ z => by cases z) rfl ?_
  exact hh
set_option maxRecDepth 100000 in
theorem B_X10_hits_7 {d : Nat} {h : AbH} {K : Option AbV → AbH → Prop} {x0 : Nat} {x1 : Int} {x2 : Int} {x3 : Int} {bc bs : Nat} (hh : ((x2 ≤ x3 → wpP h (some x0) 9 15 (vI 0) (fun h1 => Vx (d + 1) m_X10_hits bc bs 40 [some (vR (some x0)), some (vI x1), some (vI x2), some (vI 0), some (vI 0), none, none] [] h1 K)) ∧ (¬ (x2 ≤ x3) → wpGR h (some x0) 9 16 (fun r2 => wpGR h (some x0) 9 14 (fun r3 => wpLI h r3 x3 (fun n4 => wpSI h r2 x3 n4 (fun h5 => in32 (x3 + 1) ∧ Vx (d + 1) m_X10_hits bc bs 7 [some (vR (some x0)), some (vI x1), some (vI x2), some (vI (x3 + 1)), none, none, none] [] h5 K))))))) : Vx (d + 1) m_X10_hits bc bs 7 [some (vR (some x0)), some (vI x1), some (vI x2), some (vI x3), none, none, none] [] h K := by
  refine rr_iload_n dX10_hits_7 rfl rfl ?_
  refine rr_iload_n dX10_hits_8 rfl rfl ?_
  refine rr_icmp_ge (tgt := 30) dX10_hits_9 rfl (by decide) (fun hc9 => ?_) (fun hc9 => ?_)
  · have hh := hh.1 hc9
    refine rr_aload_n dX10_hits_30 rfl rfl ?_
    refine rr_iconst dX10_hits_31 rfl ⟨by decide, by decide⟩ ?_
    refine rr_put cf_X10 (j := 15) (by decide) dX10_hits_32 rfl q_769 rfl (fty := .int) (by decide +kernel) rfl rfl hh (fun h1 hh => ?_)
    refine rr_iconst dX10_hits_35 rfl ⟨by decide, by decide⟩ ?_
    refine rr_istore_n (ls' := [some (vR (some x0)), some (vI x1), some (vI x2), some (vI 0), none, none, none]) dX10_hits_36 rfl (by decide) (fun _ z => by cases z) rfl ?_
    refine rr_iconst dX10_hits_37 rfl ⟨by decide, by decide⟩ ?_
    refine rr_istore (ls' := [some (vR (some x0)), some (vI x1), some (vI x2), some (vI 0), some (vI 0), none, none]) dX10_hits_38 rfl (by decide) (fun _ z => by cases z) rfl ?_
    exact hh
  · have hh := hh.2 hc9
    refine rr_aload_n dX10_hits_12 rfl rfl ?_
    refine rr_getR cf_X10 (j := 16) (by decide) dX10_hits_13 rfl q_770 hh (fun r2 hh => ?_)
    refine rr_iload_n dX10_hits_16 rfl rfl ?_
    refine rr_aload_n dX10_hits_17 rfl rfl ?_
    refine rr_getR cf_X10 (j := 14) (by decide) dX10_hits_18 rfl q_768 hh (fun r3 hh => ?_)
    refine rr_iload_n dX10_hits_21 rfl rfl ?_
    refine rr_iald dX10_hits_22 rfl hh (fun n4 hh => ?_)
    refine rr_iast dX10_hits_23 rfl hh (fun h5 hh => ?_)
    obtain ⟨hz6, hh⟩ := hh
    refine rr_iinc (ls' := [some (vR (some x0)), some (vI x1), some (vI x2), some (vI (x3 + 1)), none, none, none]) dX10_hits_24 rfl rfl (by decide) (fun _ z => by cases z) hz6 rfl ?_
    refine rr_goto (pc' := 7) dX10_hits_27 (by decide) ?_
    exact hh
set_option maxRecDepth 100000 in
theorem B_X10_hits_40 {d : Nat} {h : AbH} {K : Option AbV → AbH → Prop} {x0 : Nat} {x1 : Int} {x2 : Int} {x3 : Int} {x4 : Int} {bc bs : Nat} (hh : ((x2 ≤ x4 → ab_z01 x3 ∧ K (some (vI x3)) h) ∧ (¬ (x2 ≤ x4) → wpGR h (some x0) 9 16 (fun r2 => wpLI h r2 x4 (fun n3 => wpCV h (some x0) 9 (fun b9 => Vm d m_X10_lawOf [vR (some b9), vI x1, vI 2] h (kI (fun n5 h4 => ((n3 ≠ n5 → Vx (d + 1) m_X10_hits bc bs 80 [some (vR (some x0)), some (vI x1), some (vI x2), some (vI x3), some (vI x4), some (vI 0), none] [] h4 K) ∧ (¬ (n3 ≠ n5) → wpCV h4 (some x0) 9 (fun b8 => Vm d m_X10_isWhere [vR (some b8), vI x1, vI x4, vI x2] h4 (kI (fun n7 h6 => ((n7 = 0 → Vx (d + 1) m_X10_hits bc bs 80 [some (vR (some x0)), some (vI x1), some (vI x2), some (vI x3), some (vI x4), some (vI 0), none] [] h6 K) ∧ (¬ (n7 = 0) → Vx (d + 1) m_X10_hits bc bs 80 [some (vR (some x0)), some (vI x1), some (vI x2), some (vI x3), some (vI x4), some (vI 1), none] [] h6 K))))))))))))))) : Vx (d + 1) m_X10_hits bc bs 40 [some (vR (some x0)), some (vI x1), some (vI x2), some (vI x3), some (vI x4), none, none] [] h K := by
  refine rr_iload dX10_hits_40 rfl rfl ?_
  refine rr_iload_n dX10_hits_42 rfl rfl ?_
  refine rr_icmp_ge (tgt := 151) dX10_hits_43 rfl (by decide) (fun hc43 => ?_) (fun hc43 => ?_)
  · have hh := hh.1 hc43
    refine rr_iload_n dX10_hits_151 rfl rfl ?_
    obtain ⟨hz1, hh⟩ := hh
    exact rr_zret dX10_hits_152 rfl (zn_b hz1) hh
  · have hh := hh.2 hc43
    refine rr_aload_n dX10_hits_46 rfl rfl ?_
    refine rr_getR cf_X10 (j := 16) (by decide) dX10_hits_47 rfl q_770 hh (fun r2 hh => ?_)
    refine rr_iload dX10_hits_50 rfl rfl ?_
    refine rr_iald dX10_hits_52 rfl hh (fun n3 hh => ?_)
    refine rr_aload_n dX10_hits_53 rfl rfl ?_
    refine rr_iload_n dX10_hits_54 rfl rfl ?_
    refine rr_iconst dX10_hits_55 rfl ⟨by decide, by decide⟩ ?_
    refine rr_callW (bc' := bc) (bs' := bs) (q := (some x0)) (av := [vI x1, vI 2]) (st := [vI n3]) mf_X10_lawOf dX10_hits_56 rfl q_848 q_850 qs_26 ⟨_, _, rfl⟩ rfl (show 1 ≤ 8 by decide) (Nat.le_refl _) (Nat.le_refl _) hh (rr_kI fun n5 h4 hh => ?_)
    refine rr_icmp_ne (tgt := 77) dX10_hits_59 rfl (by decide) (fun hc59 => ?_) (fun hc59 => ?_)
    · have hh := hh.1 hc59
      refine rr_iconst dX10_hits_77 rfl ⟨by decide, by decide⟩ ?_
      refine rr_istore (ls' := [some (vR (some x0)), some (vI x1), some (vI x2), some (vI x3), some (vI x4), some (vI 0), none]) dX10_hits_78 rfl (by decide) (fun _ z => by cases z) rfl ?_
      exact hh
    · have hh := hh.2 hc59
      refine rr_aload_n dX10_hits_62 rfl rfl ?_
      refine rr_iload_n dX10_hits_63 rfl rfl ?_
      refine rr_iload dX10_hits_64 rfl rfl ?_
      refine rr_iload_n dX10_hits_66 rfl rfl ?_
      refine rr_callW (bc' := bc) (bs' := bs) (q := (some x0)) (av := [vI x1, vI x4, vI x2]) (st := []) mf_X10_isWhere dX10_hits_67 rfl q_1002 q_1004 qs_51 ⟨_, _, rfl⟩ rfl (by decide) (Nat.le_refl _) (Nat.le_refl _) hh (rr_kI fun n7 h6 hh => ?_)
      refine rr_if_eq (tgt := 77) dX10_hits_70 rfl (by decide) (fun hc70 => ?_) (fun hc70 => ?_)
      · have hh := hh.1 hc70
        refine rr_iconst dX10_hits_77 rfl ⟨by decide, by decide⟩ ?_
        refine rr_istore (ls' := [some (vR (some x0)), some (vI x1), some (vI x2), some (vI x3), some (vI x4), some (vI 0), none]) dX10_hits_78 rfl (by decide) (fun _ z => by cases z) rfl ?_
        exact hh
      · have hh := hh.2 hc70
        refine rr_iconst dX10_hits_73 rfl ⟨by decide, by decide⟩ ?_
        refine rr_goto (pc' := 78) dX10_hits_74 (by decide) ?_
        refine rr_istore (ls' := [some (vR (some x0)), some (vI x1), some (vI x2), some (vI x3), some (vI x4), some (vI 1), none]) dX10_hits_78 rfl (by decide) (fun _ z => by cases z) rfl ?_
        exact hh
set_option maxRecDepth 100000 in
theorem B_X10_hits_80 {d : Nat} {h : AbH} {K : Option AbV → AbH → Prop} {x0 : Nat} {x1 : Int} {x2 : Int} {x3 : Int} {x4 : Int} {x5 : Int} {bc bs : Nat} (hh : ((x3 ≠ 0 → Vx (d + 1) m_X10_hits bc bs 95 [some (vR (some x0)), some (vI x1), some (vI x2), some (vI 1), some (vI x4), some (vI x5), none] [] h K) ∧ (¬ (x3 ≠ 0) → ((x5 = 0 → Vx (d + 1) m_X10_hits bc bs 95 [some (vR (some x0)), some (vI x1), some (vI x2), some (vI 0), some (vI x4), some (vI x5), none] [] h K) ∧ (¬ (x5 = 0) → Vx (d + 1) m_X10_hits bc bs 95 [some (vR (some x0)), some (vI x1), some (vI x2), some (vI 1), some (vI x4), some (vI x5), none] [] h K))))) : Vx (d + 1) m_X10_hits bc bs 80 [some (vR (some x0)), some (vI x1), some (vI x2), some (vI x3), some (vI x4), some (vI x5), none] [] h K := by
  refine rr_iload_n dX10_hits_80 rfl rfl ?_
  refine rr_if_ne (tgt := 89) dX10_hits_81 rfl (by decide) (fun hc81 => ?_) (fun hc81 => ?_)
  · have hh := hh.1 hc81
    refine rr_iconst dX10_hits_89 rfl ⟨by decide, by decide⟩ ?_
    refine rr_goto (pc' := 94) dX10_hits_90 (by decide) ?_
    refine rr_istore_n (ls' := [some (vR (some x0)), some (vI x1), some (vI x2), some (vI 1), some (vI x4), some (vI x5), none]) dX10_hits_94 rfl (by decide) (fun _ z => by cases z) rfl ?_
    exact hh
  · have hh := hh.2 hc81
    refine rr_iload dX10_hits_84 rfl rfl ?_
    refine rr_if_eq (tgt := 93) dX10_hits_86 rfl (by decide) (fun hc86 => ?_) (fun hc86 => ?_)
    · have hh := hh.1 hc86
      refine rr_iconst dX10_hits_93 rfl ⟨by decide, by decide⟩ ?_
      refine rr_istore_n (ls' := [some (vR (some x0)), some (vI x1), some (vI x2), some (vI 0), some (vI x4), some (vI x5), none]) dX10_hits_94 rfl (by decide) (fun _ z => by cases z) rfl ?_
      exact hh
    · have hh := hh.2 hc86
      refine rr_iconst dX10_hits_89 rfl ⟨by decide, by decide⟩ ?_
      refine rr_goto (pc' := 94) dX10_hits_90 (by decide) ?_
      refine rr_istore_n (ls' := [some (vR (some x0)), some (vI x1), some (vI x2), some (vI 1), some (vI x4), some (vI x5), none]) dX10_hits_94 rfl (by decide) (fun _ z => by cases z) rfl ?_
      exact hh
set_option maxRecDepth 100000 in
theorem B_X10_hits_95 {d : Nat} {h : AbH} {K : Option AbV → AbH → Prop} {x0 : Nat} {x1 : Int} {x2 : Int} {x3 : Int} {x4 : Int} {x5 : Int} {bc bs : Nat} (hh : ((x5 = 0 → wpGR h (some x0) 9 16 (fun r1 => wpLI h r1 x4 (fun n2 => Vx (d + 1) m_X10_hits bc bs 118 [some (vR (some x0)), some (vI x1), some (vI x2), some (vI x3), some (vI x4), some (vI x5), some (vI n2)] [] h K))) ∧ (¬ (x5 = 0) → wpCV h (some x0) 9 (fun b5 => Vm d m_X10_lawOf [vR (some b5), vI x1, vI 3] h (kI (fun n4 h3 => Vx (d + 1) m_X10_hits bc bs 118 [some (vR (some x0)), some (vI x1), some (vI x2), some (vI x3), some (vI x4), some (vI x5), some (vI n4)] [] h3 K)))))) : Vx (d + 1) m_X10_hits bc bs 95 [some (vR (some x0)), some (vI x1), some (vI x2), some (vI x3), some (vI x4), some (vI x5), none] [] h K := by
  refine rr_iload dX10_hits_95 rfl rfl ?_
  refine rr_if_eq (tgt := 109) dX10_hits_97 rfl (by decide) (fun hc97 => ?_) (fun hc97 => ?_)
  · have hh := hh.1 hc97
    refine rr_aload_n dX10_hits_109 rfl rfl ?_
    refine rr_getR cf_X10 (j := 16) (by decide) dX10_hits_110 rfl q_770 hh (fun r1 hh => ?_)
    refine rr_iload dX10_hits_113 rfl rfl ?_
    refine rr_iald dX10_hits_115 rfl hh (fun n2 hh => ?_)
    refine rr_istore (ls' := [some (vR (some x0)), some (vI x1), some (vI x2), some (vI x3), some (vI x4), some (vI x5), some (vI n2)]) dX10_hits_116 rfl (by decide) (fun _ z => by cases z) rfl ?_
    exact hh
  · have hh := hh.2 hc97
    refine rr_aload_n dX10_hits_100 rfl rfl ?_
    refine rr_iload_n dX10_hits_101 rfl rfl ?_
    refine rr_iconst dX10_hits_102 rfl ⟨by decide, by decide⟩ ?_
    refine rr_callW (bc' := bc) (bs' := bs) (q := (some x0)) (av := [vI x1, vI 3]) (st := []) mf_X10_lawOf dX10_hits_103 rfl q_848 q_850 qs_26 ⟨_, _, rfl⟩ rfl (by decide) (Nat.le_refl _) (Nat.le_refl _) hh (rr_kI fun n4 h3 hh => ?_)
    refine rr_goto (pc' := 116) dX10_hits_106 (by decide) ?_
    refine rr_istore (ls' := [some (vR (some x0)), some (vI x1), some (vI x2), some (vI x3), some (vI x4), some (vI x5), some (vI n4)]) dX10_hits_116 rfl (by decide) (fun _ z => by cases z) rfl ?_
    exact hh
set_option maxRecDepth 100000 in
theorem B_X10_hits_118 {d : Nat} {h : AbH} {K : Option AbV → AbH → Prop} {x0 : Nat} {x1 : Int} {x2 : Int} {x3 : Int} {x4 : Int} {x5 : Int} {x6 : Int} {bc bs : Nat} (hh : ((x6 = (-1) → in32 (x4 + 1) ∧ Vx (d + 1) m_X10_hits bc bs 40 [some (vR (some x0)), some (vI x1), some (vI x2), some (vI x3), some (vI (x4 + 1)), none, none] [] h K) ∧ (¬ (x6 = (-1)) → wpGR h (some x0) 9 14 (fun r2 => wpGI h (some x0) 9 15 (fun n3 => wpSI h r2 n3 x6 (fun h4 => wpGI h4 (some x0) 9 15 (fun n5 => in32 (n5 + 1) ∧ wpP h4 (some x0) 9 15 (vI (n5 + 1)) (fun h7 => in32 (x4 + 1) ∧ Vx (d + 1) m_X10_hits bc bs 40 [some (vR (some x0)), some (vI x1), some (vI x2), some (vI x3), some (vI (x4 + 1)), none, none] [] h7 K)))))))) : Vx (d + 1) m_X10_hits bc bs 118 [some (vR (some x0)), some (vI x1), some (vI x2), some (vI x3), some (vI x4), some (vI x5), some (vI x6)] [] h K := by
  refine rr_iload dX10_hits_118 rfl rfl ?_
  refine rr_iconst dX10_hits_120 rfl ⟨by decide, by decide⟩ ?_
  refine rr_icmp_eq (tgt := 145) dX10_hits_121 rfl (by decide) (fun hc121 => ?_) (fun hc121 => ?_)
  · have hh := hh.1 hc121
    obtain ⟨hz1, hh⟩ := hh
    refine rr_iinc (ls' := [some (vR (some x0)), some (vI x1), some (vI x2), some (vI x3), some (vI (x4 + 1)), some (vI x5), some (vI x6)]) dX10_hits_145 rfl rfl (by decide) (fun _ z => by cases z) hz1 rfl ?_
    refine rr_goto (pc' := 40) dX10_hits_148 (by decide) ?_
    exact Vx.forget (ls' := [some (vR (some x0)), some (vI x1), some (vI x2), some (vI x3), some (vI (x4 + 1)), none, none]) (And.intro rfl (And.intro rfl (And.intro rfl (And.intro rfl (And.intro rfl trivial))))) hh
  · have hh := hh.2 hc121
    refine rr_aload_n dX10_hits_124 rfl rfl ?_
    refine rr_getR cf_X10 (j := 14) (by decide) dX10_hits_125 rfl q_768 hh (fun r2 hh => ?_)
    refine rr_aload_n dX10_hits_128 rfl rfl ?_
    refine rr_getI cf_X10 (j := 15) (by decide) dX10_hits_129 rfl q_769 hh (fun n3 hh => ?_)
    refine rr_iload dX10_hits_132 rfl rfl ?_
    refine rr_iast dX10_hits_134 rfl hh (fun h4 hh => ?_)
    refine rr_aload_n dX10_hits_135 rfl rfl ?_
    refine rr_dup dX10_hits_136 rfl rfl ?_
    refine rr_getI cf_X10 (j := 15) (by decide) dX10_hits_137 rfl q_769 hh (fun n5 hh => ?_)
    refine rr_iconst dX10_hits_140 rfl ⟨by decide, by decide⟩ ?_
    obtain ⟨hz6, hh⟩ := hh
    refine rr_iadd dX10_hits_141 rfl hz6 ?_
    refine rr_put cf_X10 (j := 15) (by decide) dX10_hits_142 rfl q_769 rfl (fty := .int) (by decide +kernel) rfl rfl hh (fun h7 hh => ?_)
    obtain ⟨hz8, hh⟩ := hh
    refine rr_iinc (ls' := [some (vR (some x0)), some (vI x1), some (vI x2), some (vI x3), some (vI (x4 + 1)), some (vI x5), some (vI x6)]) dX10_hits_145 rfl rfl (by decide) (fun _ z => by cases z) hz8 rfl ?_
    refine rr_goto (pc' := 40) dX10_hits_148 (by decide) ?_
    exact Vx.forget (ls' := [some (vR (some x0)), some (vI x1), some (vI x2), some (vI x3), some (vI (x4 + 1)), none, none]) (And.intro rfl (And.intro rfl (And.intro rfl (And.intro rfl (And.intro rfl trivial))))) hh
theorem dX10_goes_0 : decode cX10_goes 0 = .ok (.iconst 0, 1) := by decide +kernel
theorem dX10_goes_1 : decode cX10_goes 1 = .ok (.istore 4, 2) := by decide +kernel
theorem dX10_goes_3 : decode cX10_goes 3 = .ok (.iload 4, 2) := by decide +kernel
theorem dX10_goes_5 : decode cX10_goes 5 = .ok (.aload_n 0, 1) := by decide +kernel
theorem dX10_goes_6 : decode cX10_goes 6 = .ok (.getfield 7, 3) := by decide +kernel
theorem dX10_goes_9 : decode cX10_goes 9 = .ok (.iconst 0, 1) := by decide +kernel
theorem dX10_goes_10 : decode cX10_goes 10 = .ok (.iaload, 1) := by decide +kernel
theorem dX10_goes_11 : decode cX10_goes 11 = .ok (.if_icmp .ge 49, 3) := by decide +kernel
theorem dX10_goes_14 : decode cX10_goes 14 = .ok (.aload_n 0, 1) := by decide +kernel
theorem dX10_goes_15 : decode cX10_goes 15 = .ok (.iload 4, 2) := by decide +kernel
theorem dX10_goes_17 : decode cX10_goes 17 = .ok (.iconst 0, 1) := by decide +kernel
theorem dX10_goes_18 : decode cX10_goes 18 = .ok (.invokevirtual 156, 3) := by decide +kernel
theorem dX10_goes_21 : decode cX10_goes 21 = .ok (.iload_n 1, 1) := by decide +kernel
theorem dX10_goes_22 : decode cX10_goes 22 = .ok (.if_icmp .ne 32, 3) := by decide +kernel
theorem dX10_goes_25 : decode cX10_goes 25 = .ok (.aload_n 0, 1) := by decide +kernel
theorem dX10_goes_26 : decode cX10_goes 26 = .ok (.iload 4, 2) := by decide +kernel
theorem dX10_goes_28 : decode cX10_goes 28 = .ok (.iconst 1, 1) := by decide +kernel
theorem dX10_goes_29 : decode cX10_goes 29 = .ok (.invokevirtual 156, 3) := by decide +kernel
theorem dX10_goes_32 : decode cX10_goes 32 = .ok (.iload_n 2, 1) := by decide +kernel
theorem dX10_goes_33 : decode cX10_goes 33 = .ok (.if_icmp .le 21, 3) := by decide +kernel
theorem dX10_goes_36 : decode cX10_goes 36 = .ok (.aload_n 0, 1) := by decide +kernel
theorem dX10_goes_37 : decode cX10_goes 37 = .ok (.iload 4, 2) := by decide +kernel
theorem dX10_goes_39 : decode cX10_goes 39 = .ok (.iconst 1, 1) := by decide +kernel
theorem dX10_goes_40 : decode cX10_goes 40 = .ok (.invokevirtual 156, 3) := by decide +kernel
theorem dX10_goes_43 : decode cX10_goes 43 = .ok (.iload_n 3, 1) := by decide +kernel
theorem dX10_goes_44 : decode cX10_goes 44 = .ok (.if_icmp .gt 10, 3) := by decide +kernel
theorem dX10_goes_47 : decode cX10_goes 47 = .ok (.aload_n 0, 1) := by decide +kernel
theorem dX10_goes_48 : decode cX10_goes 48 = .ok (.iload 4, 2) := by decide +kernel
theorem dX10_goes_50 : decode cX10_goes 50 = .ok (.invokevirtual 176, 3) := by decide +kernel
theorem dX10_goes_53 : decode cX10_goes 53 = .ok (.pop, 1) := by decide +kernel
theorem dX10_goes_54 : decode cX10_goes 54 = .ok (.iinc 4 1, 3) := by decide +kernel
theorem dX10_goes_57 : decode cX10_goes 57 = .ok (.goto (-54), 3) := by decide +kernel
theorem dX10_goes_60 : decode cX10_goes 60 = .ok (.return_, 1) := by decide +kernel
set_option maxRecDepth 100000 in
theorem B_X10_goes_0 {d : Nat} {h : AbH} {K : Option AbV → AbH → Prop} {x0 : Nat} {x1 : Int} {x2 : Int} {x3 : Int} (hh : Vx (d + 1) m_X10_goes 0 0 3 [some (vR (some x0)), some (vI x1), some (vI x2), some (vI x3), some (vI 0)] [] h K) : Vx (d + 1) m_X10_goes 0 0 0 [some (vR (some x0)), some (vI x1), some (vI x2), some (vI x3)] [] h K := by
  refine Vx.pad 1 [some (vR (some x0)), some (vI x1), some (vI x2), some (vI x3), none] rfl ?_
  refine rr_iconst dX10_goes_0 rfl ⟨by decide, by decide⟩ ?_
  refine rr_istore (ls' := [some (vR (some x0)), some (vI x1), some (vI x2), some (vI x3), some (vI 0)]) dX10_goes_1 rfl (by decide) (fun _ z => by cases z) rfl ?_
  exact hh
set_option maxRecDepth 100000 in
theorem B_X10_goes_3 {d : Nat} {h : AbH} {K : Option AbV → AbH → Prop} {x0 : Nat} {x1 : Int} {x2 : Int} {x3 : Int} {x4 : Int} {bc bs : Nat} (hh : wpGR h (some x0) 9 0 (fun r1 => wpLI h r1 0 (fun n2 => ((n2 ≤ x4 → K none h) ∧ (¬ (n2 ≤ x4) → wpCV h (some x0) 9 (fun b18 => Vm d m_X10_lawOf [vR (some b18), vI x4, vI 0] h (kI (fun n4 h3 => ((n4 ≠ x1 → in32 (x4 + 1) ∧ Vx (d + 1) m_X10_goes bc bs 3 [some (vR (some x0)), some (vI x1), some (vI x2), some (vI x3), some (vI (x4 + 1))] [] h3 K) ∧ (¬ (n4 ≠ x1) → wpCV h3 (some x0) 9 (fun b17 => Vm d m_X10_lawOf [vR (some b17), vI x4, vI 1] h3 (kI (fun n7 h6 => ((n7 ≤ x2 → in32 (x4 + 1) ∧ Vx (d + 1) m_X10_goes bc bs 3 [some (vR (some x0)), some (vI x1), some (vI x2), some (vI x3), some (vI (x4 + 1))] [] h6 K) ∧ (¬ (n7 ≤ x2) → wpCV h6 (some x0) 9 (fun b16 => Vm d m_X10_lawOf [vR (some b16), vI x4, vI 1] h6 (kI (fun n10 h9 => ((x3 < n10 → in32 (x4 + 1) ∧ Vx (d + 1) m_X10_goes bc bs 3 [some (vR (some x0)), some (vI x1), some (vI x2), some (vI x3), some (vI (x4 + 1))] [] h9 K) ∧ (¬ (x3 < n10) → wpCV h9 (some x0) 9 (fun b15 => Vm d m_X10_hits [vR (some b15), vI x4] h9 (kI (fun n13 h12 => in32 (x4 + 1) ∧ Vx (d + 1) m_X10_goes bc bs 3 [some (vR (some x0)), some (vI x1), some (vI x2), some (vI x3), some (vI (x4 + 1))] [] h12 K))))))))))))))))))))))) : Vx (d + 1) m_X10_goes bc bs 3 [some (vR (some x0)), some (vI x1), some (vI x2), some (vI x3), some (vI x4)] [] h K := by
  refine rr_iload dX10_goes_3 rfl rfl ?_
  refine rr_aload_n dX10_goes_5 rfl rfl ?_
  refine rr_getR cf_X10 (j := 0) (by decide) dX10_goes_6 rfl q_754 hh (fun r1 hh => ?_)
  refine rr_iconst dX10_goes_9 rfl ⟨by decide, by decide⟩ ?_
  refine rr_iald dX10_goes_10 rfl hh (fun n2 hh => ?_)
  refine rr_icmp_ge (tgt := 60) dX10_goes_11 rfl (by decide) (fun hc11 => ?_) (fun hc11 => ?_)
  · have hh := hh.1 hc11
    exact rr_vret dX10_goes_60 rfl hh
  · have hh := hh.2 hc11
    refine rr_aload_n dX10_goes_14 rfl rfl ?_
    refine rr_iload dX10_goes_15 rfl rfl ?_
    refine rr_iconst dX10_goes_17 rfl ⟨by decide, by decide⟩ ?_
    refine rr_callW (bc' := bc) (bs' := bs) (q := (some x0)) (av := [vI x4, vI 0]) (st := []) mf_X10_lawOf dX10_goes_18 rfl q_848 q_850 qs_26 ⟨_, _, rfl⟩ rfl (by decide) (Nat.le_refl _) (Nat.le_refl _) hh (rr_kI fun n4 h3 hh => ?_)
    refine rr_iload_n dX10_goes_21 rfl rfl ?_
    refine rr_icmp_ne (tgt := 54) dX10_goes_22 rfl (by decide) (fun hc22 => ?_) (fun hc22 => ?_)
    · have hh := hh.1 hc22
      obtain ⟨hz5, hh⟩ := hh
      refine rr_iinc (ls' := [some (vR (some x0)), some (vI x1), some (vI x2), some (vI x3), some (vI (x4 + 1))]) dX10_goes_54 rfl rfl (by decide) (fun _ z => by cases z) hz5 rfl ?_
      refine rr_goto (pc' := 3) dX10_goes_57 (by decide) ?_
      exact hh
    · have hh := hh.2 hc22
      refine rr_aload_n dX10_goes_25 rfl rfl ?_
      refine rr_iload dX10_goes_26 rfl rfl ?_
      refine rr_iconst dX10_goes_28 rfl ⟨by decide, by decide⟩ ?_
      refine rr_callW (bc' := bc) (bs' := bs) (q := (some x0)) (av := [vI x4, vI 1]) (st := []) mf_X10_lawOf dX10_goes_29 rfl q_848 q_850 qs_26 ⟨_, _, rfl⟩ rfl (by decide) (Nat.le_refl _) (Nat.le_refl _) hh (rr_kI fun n7 h6 hh => ?_)
      refine rr_iload_n dX10_goes_32 rfl rfl ?_
      refine rr_icmp_le (tgt := 54) dX10_goes_33 rfl (by decide) (fun hc33 => ?_) (fun hc33 => ?_)
      · have hh := hh.1 hc33
        obtain ⟨hz8, hh⟩ := hh
        refine rr_iinc (ls' := [some (vR (some x0)), some (vI x1), some (vI x2), some (vI x3), some (vI (x4 + 1))]) dX10_goes_54 rfl rfl (by decide) (fun _ z => by cases z) hz8 rfl ?_
        refine rr_goto (pc' := 3) dX10_goes_57 (by decide) ?_
        exact hh
      · have hh := hh.2 hc33
        refine rr_aload_n dX10_goes_36 rfl rfl ?_
        refine rr_iload dX10_goes_37 rfl rfl ?_
        refine rr_iconst dX10_goes_39 rfl ⟨by decide, by decide⟩ ?_
        refine rr_callW (bc' := bc) (bs' := bs) (q := (some x0)) (av := [vI x4, vI 1]) (st := []) mf_X10_lawOf dX10_goes_40 rfl q_848 q_850 qs_26 ⟨_, _, rfl⟩ rfl (by decide) (Nat.le_refl _) (Nat.le_refl _) hh (rr_kI fun n10 h9 hh => ?_)
        refine rr_iload_n dX10_goes_43 rfl rfl ?_
        refine rr_icmp_gt (tgt := 54) dX10_goes_44 rfl (by decide) (fun hc44 => ?_) (fun hc44 => ?_)
        · have hh := hh.1 hc44
          obtain ⟨hz11, hh⟩ := hh
          refine rr_iinc (ls' := [some (vR (some x0)), some (vI x1), some (vI x2), some (vI x3), some (vI (x4 + 1))]) dX10_goes_54 rfl rfl (by decide) (fun _ z => by cases z) hz11 rfl ?_
          refine rr_goto (pc' := 3) dX10_goes_57 (by decide) ?_
          exact hh
        · have hh := hh.2 hc44
          refine rr_aload_n dX10_goes_47 rfl rfl ?_
          refine rr_iload dX10_goes_48 rfl rfl ?_
          refine rr_callW (bc' := bc) (bs' := bs) (q := (some x0)) (av := [vI x4]) (st := []) mf_X10_hits dX10_goes_50 rfl q_998 q_1000 qs_50 ⟨_, _, rfl⟩ rfl (by decide) (Nat.le_refl _) (Nat.le_refl _) hh (rr_kI fun n13 h12 hh => ?_)
          refine rr_pop dX10_goes_53 rfl rfl ?_
          obtain ⟨hz14, hh⟩ := hh
          refine rr_iinc (ls' := [some (vR (some x0)), some (vI x1), some (vI x2), some (vI x3), some (vI (x4 + 1))]) dX10_goes_54 rfl rfl (by decide) (fun _ z => by cases z) hz14 rfl ?_
          refine rr_goto (pc' := 3) dX10_goes_57 (by decide) ?_
          exact hh
theorem dX10_takes_0 : decode cX10_takes 0 = .ok (.aload_n 0, 1) := by decide +kernel
theorem dX10_takes_1 : decode cX10_takes 1 = .ok (.iload_n 1, 1) := by decide +kernel
theorem dX10_takes_2 : decode cX10_takes 2 = .ok (.invokevirtual 179, 3) := by decide +kernel
theorem dX10_takes_5 : decode cX10_takes 5 = .ok (.aload_n 0, 1) := by decide +kernel
theorem dX10_takes_6 : decode cX10_takes 6 = .ok (.iload_n 2, 1) := by decide +kernel
theorem dX10_takes_7 : decode cX10_takes 7 = .ok (.iconst 0, 1) := by decide +kernel
theorem dX10_takes_8 : decode cX10_takes 8 = .ok (.iload 4, 2) := by decide +kernel
theorem dX10_takes_10 : decode cX10_takes 10 = .ok (.invokevirtual 183, 3) := by decide +kernel
theorem dX10_takes_13 : decode cX10_takes 13 = .ok (.aload_n 0, 1) := by decide +kernel
theorem dX10_takes_14 : decode cX10_takes 14 = .ok (.iload_n 3, 1) := by decide +kernel
theorem dX10_takes_15 : decode cX10_takes 15 = .ok (.iload 4, 2) := by decide +kernel
theorem dX10_takes_17 : decode cX10_takes 17 = .ok (.bipush 99, 2) := by decide +kernel
theorem dX10_takes_19 : decode cX10_takes 19 = .ok (.invokevirtual 183, 3) := by decide +kernel
theorem dX10_takes_22 : decode cX10_takes 22 = .ok (.return_, 1) := by decide +kernel
set_option maxRecDepth 100000 in
theorem B_X10_takes_0 {d : Nat} {h : AbH} {K : Option AbV → AbH → Prop} {x0 : Nat} {x1 : Int} {x2 : Int} {x3 : Int} {x4 : Int} (hh : wpCV h (some x0) 9 (fun b6 => Vm d m_X10_takesWord [vR (some b6), vI x1] h (kV (fun h1 => wpCV h1 (some x0) 9 (fun b5 => Vm d m_X10_goes [vR (some b5), vI x2, vI 0, vI x4] h1 (kV (fun h2 => wpCV h2 (some x0) 9 (fun b4 => Vm d m_X10_goes [vR (some b4), vI x3, vI x4, vI 99] h2 (kV (fun h3 => K none h3)))))))))) : Vx (d + 1) m_X10_takes 0 0 0 [some (vR (some x0)), some (vI x1), some (vI x2), some (vI x3), some (vI x4)] [] h K := by
  refine rr_aload_n dX10_takes_0 rfl rfl ?_
  refine rr_iload_n dX10_takes_1 rfl rfl ?_
  refine rr_callW (bc' := 0) (bs' := 0) (q := (some x0)) (av := [vI x1]) (st := []) mf_X10_takesWord dX10_takes_2 rfl q_990 q_992 qs_48 ⟨_, _, rfl⟩ rfl (by decide) (Nat.le_refl _) (Nat.le_refl _) hh (rr_kV fun h1 hh => ?_)
  refine rr_aload_n dX10_takes_5 rfl rfl ?_
  refine rr_iload_n dX10_takes_6 rfl rfl ?_
  refine rr_iconst dX10_takes_7 rfl ⟨by decide, by decide⟩ ?_
  refine rr_iload dX10_takes_8 rfl rfl ?_
  refine rr_callW (bc' := 0) (bs' := 0) (q := (some x0)) (av := [vI x2, vI 0, vI x4]) (st := []) mf_X10_goes dX10_takes_10 rfl q_994 q_996 qs_49 ⟨_, _, rfl⟩ rfl (by decide) (Nat.le_refl _) (Nat.le_refl _) hh (rr_kV fun h2 hh => ?_)
  refine rr_aload_n dX10_takes_13 rfl rfl ?_
  refine rr_iload_n dX10_takes_14 rfl rfl ?_
  refine rr_iload dX10_takes_15 rfl rfl ?_
  refine rr_bipush dX10_takes_17 rfl ⟨by decide, by decide⟩ rfl ?_
  refine rr_callW (bc' := 0) (bs' := 0) (q := (some x0)) (av := [vI x3, vI x4, vI 99]) (st := []) mf_X10_goes dX10_takes_19 rfl q_994 q_996 qs_49 ⟨_, _, rfl⟩ rfl (by decide) (Nat.le_refl _) (Nat.le_refl _) hh (rr_kV fun h3 hh => ?_)
  exact rr_vret dX10_takes_22 rfl hh
theorem dX10_isEnd_0 : decode cX10_isEnd 0 = .ok (.iload_n 1, 1) := by decide +kernel
theorem dX10_isEnd_1 : decode cX10_isEnd 1 = .ok (.invokestatic 128, 3) := by decide +kernel
theorem dX10_isEnd_4 : decode cX10_isEnd 4 = .ok (.istore_n 2, 1) := by decide +kernel
theorem dX10_isEnd_5 : decode cX10_isEnd 5 = .ok (.aload_n 0, 1) := by decide +kernel
theorem dX10_isEnd_6 : decode cX10_isEnd 6 = .ok (.getfield 169, 3) := by decide +kernel
theorem dX10_isEnd_9 : decode cX10_isEnd 9 = .ok (.aload_n 0, 1) := by decide +kernel
theorem dX10_isEnd_10 : decode cX10_isEnd 10 = .ok (.getfield 7, 3) := by decide +kernel
theorem dX10_isEnd_13 : decode cX10_isEnd 13 = .ok (.iload_n 2, 1) := by decide +kernel
theorem dX10_isEnd_14 : decode cX10_isEnd 14 = .ok (.iconst 3, 1) := by decide +kernel
theorem dX10_isEnd_15 : decode cX10_isEnd 15 = .ok (.iadd, 1) := by decide +kernel
theorem dX10_isEnd_16 : decode cX10_isEnd 16 = .ok (.iaload, 1) := by decide +kernel
theorem dX10_isEnd_17 : decode cX10_isEnd 17 = .ok (.if_icmp .ne 7, 3) := by decide +kernel
theorem dX10_isEnd_20 : decode cX10_isEnd 20 = .ok (.iconst 1, 1) := by decide +kernel
theorem dX10_isEnd_21 : decode cX10_isEnd 21 = .ok (.goto 4, 3) := by decide +kernel
theorem dX10_isEnd_24 : decode cX10_isEnd 24 = .ok (.iconst 0, 1) := by decide +kernel
theorem dX10_isEnd_25 : decode cX10_isEnd 25 = .ok (.istore_n 3, 1) := by decide +kernel
theorem dX10_isEnd_26 : decode cX10_isEnd 26 = .ok (.iconst 0, 1) := by decide +kernel
theorem dX10_isEnd_27 : decode cX10_isEnd 27 = .ok (.istore 4, 2) := by decide +kernel
theorem dX10_isEnd_29 : decode cX10_isEnd 29 = .ok (.iload 4, 2) := by decide +kernel
theorem dX10_isEnd_31 : decode cX10_isEnd 31 = .ok (.aload_n 0, 1) := by decide +kernel
theorem dX10_isEnd_32 : decode cX10_isEnd 32 = .ok (.getfield 169, 3) := by decide +kernel
theorem dX10_isEnd_35 : decode cX10_isEnd 35 = .ok (.if_icmp .ge 41, 3) := by decide +kernel
theorem dX10_isEnd_38 : decode cX10_isEnd 38 = .ok (.iload_n 3, 1) := by decide +kernel
theorem dX10_isEnd_39 : decode cX10_isEnd 39 = .ok (.ifCond .eq 37, 3) := by decide +kernel
theorem dX10_isEnd_42 : decode cX10_isEnd 42 = .ok (.aload_n 0, 1) := by decide +kernel
theorem dX10_isEnd_43 : decode cX10_isEnd 43 = .ok (.getfield 29, 3) := by decide +kernel
theorem dX10_isEnd_46 : decode cX10_isEnd 46 = .ok (.iload 4, 2) := by decide +kernel
theorem dX10_isEnd_48 : decode cX10_isEnd 48 = .ok (.iaload, 1) := by decide +kernel
theorem dX10_isEnd_49 : decode cX10_isEnd 49 = .ok (.aload_n 0, 1) := by decide +kernel
theorem dX10_isEnd_50 : decode cX10_isEnd 50 = .ok (.getfield 7, 3) := by decide +kernel
theorem dX10_isEnd_53 : decode cX10_isEnd 53 = .ok (.iload_n 2, 1) := by decide +kernel
theorem dX10_isEnd_54 : decode cX10_isEnd 54 = .ok (.bipush 12, 2) := by decide +kernel
theorem dX10_isEnd_56 : decode cX10_isEnd 56 = .ok (.iadd, 1) := by decide +kernel
theorem dX10_isEnd_57 : decode cX10_isEnd 57 = .ok (.iload 4, 2) := by decide +kernel
theorem dX10_isEnd_59 : decode cX10_isEnd 59 = .ok (.iadd, 1) := by decide +kernel
theorem dX10_isEnd_60 : decode cX10_isEnd 60 = .ok (.iaload, 1) := by decide +kernel
theorem dX10_isEnd_61 : decode cX10_isEnd 61 = .ok (.if_icmp .ne 7, 3) := by decide +kernel
theorem dX10_isEnd_64 : decode cX10_isEnd 64 = .ok (.iconst 1, 1) := by decide +kernel
theorem dX10_isEnd_65 : decode cX10_isEnd 65 = .ok (.goto 4, 3) := by decide +kernel
theorem dX10_isEnd_68 : decode cX10_isEnd 68 = .ok (.iconst 0, 1) := by decide +kernel
theorem dX10_isEnd_69 : decode cX10_isEnd 69 = .ok (.istore_n 3, 1) := by decide +kernel
theorem dX10_isEnd_70 : decode cX10_isEnd 70 = .ok (.iinc 4 1, 3) := by decide +kernel
theorem dX10_isEnd_73 : decode cX10_isEnd 73 = .ok (.goto (-44), 3) := by decide +kernel
theorem dX10_isEnd_76 : decode cX10_isEnd 76 = .ok (.iload_n 3, 1) := by decide +kernel
theorem dX10_isEnd_77 : decode cX10_isEnd 77 = .ok (.ireturn, 1) := by decide +kernel
set_option maxRecDepth 100000 in
theorem B_X10_isEnd_0 {d : Nat} {h : AbH} {K : Option AbV → AbH → Prop} {x0 : Nat} {x1 : Int} (hh : Vm d m_X10_loanAt [vI x1] h (kI (fun n2 h1 => wpGI h1 (some x0) 9 15 (fun n3 => wpGR h1 (some x0) 9 0 (fun r4 => in32 (n2 + 3) ∧ wpLI h1 r4 (n2 + 3) (fun n6 => ((n3 ≠ n6 → Vx (d + 1) m_X10_isEnd 0 0 29 [some (vR (some x0)), some (vI x1), some (vI n2), some (vI 0), some (vI 0)] [] h1 K) ∧ (¬ (n3 ≠ n6) → Vx (d + 1) m_X10_isEnd 0 0 29 [some (vR (some x0)), some (vI x1), some (vI n2), some (vI 1), some (vI 0)] [] h1 K)))))))) : Vx (d + 1) m_X10_isEnd 0 0 0 [some (vR (some x0)), some (vI x1)] [] h K := by
  refine Vx.pad 3 [some (vR (some x0)), some (vI x1), none, none, none] rfl ?_
  refine rr_iload_n dX10_isEnd_0 rfl rfl ?_
  refine rr_callS (bc' := 0) (bs' := 0) (av := [vI x1]) (st := []) mf_X10_loanAt dX10_isEnd_1 rfl q_918 q_919 rfl (by decide) (Nat.le_refl _) (Nat.le_refl _) hh (rr_kI fun n2 h1 hh => ?_)
  refine rr_istore_n (ls' := [some (vR (some x0)), some (vI x1), some (vI n2), none, none]) dX10_isEnd_4 rfl (by decide) (fun _ z => by cases z) rfl ?_
  refine rr_aload_n dX10_isEnd_5 rfl rfl ?_
  refine rr_getI cf_X10 (j := 15) (by decide) dX10_isEnd_6 rfl q_769 hh (fun n3 hh => ?_)
  refine rr_aload_n dX10_isEnd_9 rfl rfl ?_
  refine rr_getR cf_X10 (j := 0) (by decide) dX10_isEnd_10 rfl q_754 hh (fun r4 hh => ?_)
  refine rr_iload_n dX10_isEnd_13 rfl rfl ?_
  refine rr_iconst dX10_isEnd_14 rfl ⟨by decide, by decide⟩ ?_
  obtain ⟨hz5, hh⟩ := hh
  refine rr_iadd dX10_isEnd_15 rfl hz5 ?_
  refine rr_iald dX10_isEnd_16 rfl hh (fun n6 hh => ?_)
  refine rr_icmp_ne (tgt := 24) dX10_isEnd_17 rfl (by decide) (fun hc17 => ?_) (fun hc17 => ?_)
  · have hh := hh.1 hc17
    refine rr_iconst dX10_isEnd_24 rfl ⟨by decide, by decide⟩ ?_
    refine rr_istore_n (ls' := [some (vR (some x0)), some (vI x1), some (vI n2), some (vI 0), none]) dX10_isEnd_25 rfl (by decide) (fun _ z => by cases z) rfl ?_
    refine rr_iconst dX10_isEnd_26 rfl ⟨by decide, by decide⟩ ?_
    refine rr_istore (ls' := [some (vR (some x0)), some (vI x1), some (vI n2), some (vI 0), some (vI 0)]) dX10_isEnd_27 rfl (by decide) (fun _ z => by cases z) rfl ?_
    exact hh
  · have hh := hh.2 hc17
    refine rr_iconst dX10_isEnd_20 rfl ⟨by decide, by decide⟩ ?_
    refine rr_goto (pc' := 25) dX10_isEnd_21 (by decide) ?_
    refine rr_istore_n (ls' := [some (vR (some x0)), some (vI x1), some (vI n2), some (vI 1), none]) dX10_isEnd_25 rfl (by decide) (fun _ z => by cases z) rfl ?_
    refine rr_iconst dX10_isEnd_26 rfl ⟨by decide, by decide⟩ ?_
    refine rr_istore (ls' := [some (vR (some x0)), some (vI x1), some (vI n2), some (vI 1), some (vI 0)]) dX10_isEnd_27 rfl (by decide) (fun _ z => by cases z) rfl ?_
    exact hh
set_option maxRecDepth 100000 in
theorem B_X10_isEnd_29 {d : Nat} {h : AbH} {K : Option AbV → AbH → Prop} {x0 : Nat} {x1 : Int} {x2 : Int} {x3 : Int} {x4 : Int} {bc bs : Nat} (hh : wpGI h (some x0) 9 15 (fun n1 => ((n1 ≤ x4 → ab_z01 x3 ∧ K (some (vI x3)) h) ∧ (¬ (n1 ≤ x4) → ((x3 = 0 → ab_z01 x3 ∧ K (some (vI x3)) h) ∧ (¬ (x3 = 0) → wpGR h (some x0) 9 14 (fun r4 => wpLI h r4 x4 (fun n5 => wpGR h (some x0) 9 0 (fun r6 => in32 (x2 + 12) ∧ in32 ((x2 + 12) + x4) ∧ wpLI h r6 ((x2 + 12) + x4) (fun n9 => ((n5 ≠ n9 → in32 (x4 + 1) ∧ Vx (d + 1) m_X10_isEnd bc bs 29 [some (vR (some x0)), some (vI x1), some (vI x2), some (vI 0), some (vI (x4 + 1))] [] h K) ∧ (¬ (n5 ≠ n9) → in32 (x4 + 1) ∧ Vx (d + 1) m_X10_isEnd bc bs 29 [some (vR (some x0)), some (vI x1), some (vI x2), some (vI 1), some (vI (x4 + 1))] [] h K)))))))))))) : Vx (d + 1) m_X10_isEnd bc bs 29 [some (vR (some x0)), some (vI x1), some (vI x2), some (vI x3), some (vI x4)] [] h K := by
  refine rr_iload dX10_isEnd_29 rfl rfl ?_
  refine rr_aload_n dX10_isEnd_31 rfl rfl ?_
  refine rr_getI cf_X10 (j := 15) (by decide) dX10_isEnd_32 rfl q_769 hh (fun n1 hh => ?_)
  refine rr_icmp_ge (tgt := 76) dX10_isEnd_35 rfl (by decide) (fun hc35 => ?_) (fun hc35 => ?_)
  · have hh := hh.1 hc35
    refine rr_iload_n dX10_isEnd_76 rfl rfl ?_
    obtain ⟨hz2, hh⟩ := hh
    exact rr_zret dX10_isEnd_77 rfl (zn_b hz2) hh
  · have hh := hh.2 hc35
    refine rr_iload_n dX10_isEnd_38 rfl rfl ?_
    refine rr_if_eq (tgt := 76) dX10_isEnd_39 rfl (by decide) (fun hc39 => ?_) (fun hc39 => ?_)
    · have hh := hh.1 hc39
      refine rr_iload_n dX10_isEnd_76 rfl rfl ?_
      obtain ⟨hz3, hh⟩ := hh
      exact rr_zret dX10_isEnd_77 rfl (zn_b hz3) hh
    · have hh := hh.2 hc39
      refine rr_aload_n dX10_isEnd_42 rfl rfl ?_
      refine rr_getR cf_X10 (j := 14) (by decide) dX10_isEnd_43 rfl q_768 hh (fun r4 hh => ?_)
      refine rr_iload dX10_isEnd_46 rfl rfl ?_
      refine rr_iald dX10_isEnd_48 rfl hh (fun n5 hh => ?_)
      refine rr_aload_n dX10_isEnd_49 rfl rfl ?_
      refine rr_getR cf_X10 (j := 0) (by decide) dX10_isEnd_50 rfl q_754 hh (fun r6 hh => ?_)
      refine rr_iload_n dX10_isEnd_53 rfl rfl ?_
      refine rr_bipush dX10_isEnd_54 rfl ⟨by decide, by decide⟩ rfl ?_
      obtain ⟨hz7, hh⟩ := hh
      refine rr_iadd dX10_isEnd_56 rfl hz7 ?_
      refine rr_iload dX10_isEnd_57 rfl rfl ?_
      obtain ⟨hz8, hh⟩ := hh
      refine rr_iadd dX10_isEnd_59 rfl hz8 ?_
      refine rr_iald dX10_isEnd_60 rfl hh (fun n9 hh => ?_)
      refine rr_icmp_ne (tgt := 68) dX10_isEnd_61 rfl (by decide) (fun hc61 => ?_) (fun hc61 => ?_)
      · have hh := hh.1 hc61
        refine rr_iconst dX10_isEnd_68 rfl ⟨by decide, by decide⟩ ?_
        refine rr_istore_n (ls' := [some (vR (some x0)), some (vI x1), some (vI x2), some (vI 0), some (vI x4)]) dX10_isEnd_69 rfl (by decide) (fun _ z => by cases z) rfl ?_
        obtain ⟨hz10, hh⟩ := hh
        refine rr_iinc (ls' := [some (vR (some x0)), some (vI x1), some (vI x2), some (vI 0), some (vI (x4 + 1))]) dX10_isEnd_70 rfl rfl (by decide) (fun _ z => by cases z) hz10 rfl ?_
        refine rr_goto (pc' := 29) dX10_isEnd_73 (by decide) ?_
        exact hh
      · have hh := hh.2 hc61
        refine rr_iconst dX10_isEnd_64 rfl ⟨by decide, by decide⟩ ?_
        refine rr_goto (pc' := 69) dX10_isEnd_65 (by decide) ?_
        refine rr_istore_n (ls' := [some (vR (some x0)), some (vI x1), some (vI x2), some (vI 1), some (vI x4)]) dX10_isEnd_69 rfl (by decide) (fun _ z => by cases z) rfl ?_
        obtain ⟨hz11, hh⟩ := hh
        refine rr_iinc (ls' := [some (vR (some x0)), some (vI x1), some (vI x2), some (vI 1), some (vI (x4 + 1))]) dX10_isEnd_70 rfl rfl (by decide) (fun _ z => by cases z) hz11 rfl ?_
        refine rr_goto (pc' := 29) dX10_isEnd_73 (by decide) ?_
        exact hh
theorem dX10_fits_0 : decode cX10_fits 0 = .ok (.aload_n 0, 1) := by decide +kernel
theorem dX10_fits_1 : decode cX10_fits 1 = .ok (.getfield 7, 3) := by decide +kernel
theorem dX10_fits_4 : decode cX10_fits 4 = .ok (.iload_n 1, 1) := by decide +kernel
theorem dX10_fits_5 : decode cX10_fits 5 = .ok (.invokestatic 128, 3) := by decide +kernel
theorem dX10_fits_8 : decode cX10_fits 8 = .ok (.iconst 0, 1) := by decide +kernel
theorem dX10_fits_9 : decode cX10_fits 9 = .ok (.iadd, 1) := by decide +kernel
theorem dX10_fits_10 : decode cX10_fits 10 = .ok (.iaload, 1) := by decide +kernel
theorem dX10_fits_11 : decode cX10_fits 11 = .ok (.istore_n 3, 1) := by decide +kernel
theorem dX10_fits_12 : decode cX10_fits 12 = .ok (.aload_n 0, 1) := by decide +kernel
theorem dX10_fits_13 : decode cX10_fits 13 = .ok (.getfield 7, 3) := by decide +kernel
theorem dX10_fits_16 : decode cX10_fits 16 = .ok (.iload_n 1, 1) := by decide +kernel
theorem dX10_fits_17 : decode cX10_fits 17 = .ok (.invokestatic 128, 3) := by decide +kernel
theorem dX10_fits_20 : decode cX10_fits 20 = .ok (.iconst 1, 1) := by decide +kernel
theorem dX10_fits_21 : decode cX10_fits 21 = .ok (.iadd, 1) := by decide +kernel
theorem dX10_fits_22 : decode cX10_fits 22 = .ok (.iaload, 1) := by decide +kernel
theorem dX10_fits_23 : decode cX10_fits 23 = .ok (.istore 4, 2) := by decide +kernel
theorem dX10_fits_25 : decode cX10_fits 25 = .ok (.aload_n 0, 1) := by decide +kernel
theorem dX10_fits_26 : decode cX10_fits 26 = .ok (.iload_n 3, 1) := by decide +kernel
theorem dX10_fits_27 : decode cX10_fits 27 = .ok (.iload 4, 2) := by decide +kernel
theorem dX10_fits_29 : decode cX10_fits 29 = .ok (.iload_n 2, 1) := by decide +kernel
theorem dX10_fits_30 : decode cX10_fits 30 = .ok (.invokevirtual 187, 3) := by decide +kernel
theorem dX10_fits_33 : decode cX10_fits 33 = .ok (.ifCond .ne 5, 3) := by decide +kernel
theorem dX10_fits_36 : decode cX10_fits 36 = .ok (.iconst 0, 1) := by decide +kernel
theorem dX10_fits_37 : decode cX10_fits 37 = .ok (.ireturn, 1) := by decide +kernel
theorem dX10_fits_38 : decode cX10_fits 38 = .ok (.aload_n 0, 1) := by decide +kernel
theorem dX10_fits_39 : decode cX10_fits 39 = .ok (.iload_n 1, 1) := by decide +kernel
theorem dX10_fits_40 : decode cX10_fits 40 = .ok (.iload_n 3, 1) := by decide +kernel
theorem dX10_fits_41 : decode cX10_fits 41 = .ok (.iload 4, 2) := by decide +kernel
theorem dX10_fits_43 : decode cX10_fits 43 = .ok (.iload_n 2, 1) := by decide +kernel
theorem dX10_fits_44 : decode cX10_fits 44 = .ok (.invokevirtual 190, 3) := by decide +kernel
theorem dX10_fits_47 : decode cX10_fits 47 = .ok (.aload_n 0, 1) := by decide +kernel
theorem dX10_fits_48 : decode cX10_fits 48 = .ok (.iload_n 1, 1) := by decide +kernel
theorem dX10_fits_49 : decode cX10_fits 49 = .ok (.invokevirtual 194, 3) := by decide +kernel
theorem dX10_fits_52 : decode cX10_fits 52 = .ok (.ireturn, 1) := by decide +kernel
set_option maxRecDepth 100000 in
theorem B_X10_fits_0 {d : Nat} {h : AbH} {K : Option AbV → AbH → Prop} {x0 : Nat} {x1 : Int} {x2 : Int} (hh : wpGR h (some x0) 9 0 (fun r1 => Vm d m_X10_loanAt [vI x1] h (kI (fun n3 h2 => in32 (n3 + 0) ∧ wpLI h2 r1 (n3 + 0) (fun n5 => wpGR h2 (some x0) 9 0 (fun r6 => Vm d m_X10_loanAt [vI x1] h2 (kI (fun n8 h7 => in32 (n8 + 1) ∧ wpLI h7 r6 (n8 + 1) (fun n10 => wpCV h7 (some x0) 9 (fun b19 => Vm d m_X10_isMet [vR (some b19), vI n5, vI n10, vI x2] h7 (kI (fun n12 h11 => ((n12 ≠ 0 → wpCV h11 (some x0) 9 (fun b18 => Vm d m_X10_takes [vR (some b18), vI x1, vI n5, vI n10, vI x2] h11 (kV (fun h13 => wpCV h13 (some x0) 9 (fun b17 => Vm d m_X10_isEnd [vR (some b17), vI x1] h13 (kI (fun n15 h14 => ab_z01 n15 ∧ K (some (vI n15)) h14))))))) ∧ (¬ (n12 ≠ 0) → K (some (vI 0)) h11)))))))))))))) : Vx (d + 1) m_X10_fits 0 0 0 [some (vR (some x0)), some (vI x1), some (vI x2)] [] h K := by
  refine Vx.pad 2 [some (vR (some x0)), some (vI x1), some (vI x2), none, none] rfl ?_
  refine rr_aload_n dX10_fits_0 rfl rfl ?_
  refine rr_getR cf_X10 (j := 0) (by decide) dX10_fits_1 rfl q_754 hh (fun r1 hh => ?_)
  refine rr_iload_n dX10_fits_4 rfl rfl ?_
  refine rr_callS (bc' := 0) (bs' := 0) (av := [vI x1]) (st := [vR r1]) mf_X10_loanAt dX10_fits_5 rfl q_918 q_919 rfl (cs_le _ (Nat.le_of_ble_eq_true rfl)) (Nat.le_refl _) (Nat.le_refl _) hh (rr_kI fun n3 h2 hh => ?_)
  refine rr_iconst dX10_fits_8 rfl ⟨by decide, by decide⟩ ?_
  obtain ⟨hz4, hh⟩ := hh
  refine rr_iadd dX10_fits_9 rfl hz4 ?_
  refine rr_iald dX10_fits_10 rfl hh (fun n5 hh => ?_)
  refine rr_istore_n (ls' := [some (vR (some x0)), some (vI x1), some (vI x2), some (vI n5), none]) dX10_fits_11 rfl (by decide) (fun _ z => by cases z) rfl ?_
  refine rr_aload_n dX10_fits_12 rfl rfl ?_
  refine rr_getR cf_X10 (j := 0) (by decide) dX10_fits_13 rfl q_754 hh (fun r6 hh => ?_)
  refine rr_iload_n dX10_fits_16 rfl rfl ?_
  refine rr_callS (bc' := 0) (bs' := 0) (av := [vI x1]) (st := [vR r6]) mf_X10_loanAt dX10_fits_17 rfl q_918 q_919 rfl (cs_le _ (Nat.le_of_ble_eq_true rfl)) (Nat.le_refl _) (Nat.le_refl _) hh (rr_kI fun n8 h7 hh => ?_)
  refine rr_iconst dX10_fits_20 rfl ⟨by decide, by decide⟩ ?_
  obtain ⟨hz9, hh⟩ := hh
  refine rr_iadd dX10_fits_21 rfl hz9 ?_
  refine rr_iald dX10_fits_22 rfl hh (fun n10 hh => ?_)
  refine rr_istore (ls' := [some (vR (some x0)), some (vI x1), some (vI x2), some (vI n5), some (vI n10)]) dX10_fits_23 rfl (by decide) (fun _ z => by cases z) rfl ?_
  refine rr_aload_n dX10_fits_25 rfl rfl ?_
  refine rr_iload_n dX10_fits_26 rfl rfl ?_
  refine rr_iload dX10_fits_27 rfl rfl ?_
  refine rr_iload_n dX10_fits_29 rfl rfl ?_
  refine rr_callW (bc' := 0) (bs' := 0) (q := (some x0)) (av := [vI n5, vI n10, vI x2]) (st := []) mf_X10_isMet dX10_fits_30 rfl q_1051 q_1053 qs_56 ⟨_, _, rfl⟩ rfl (by decide) (Nat.le_refl _) (Nat.le_refl _) hh (rr_kI fun n12 h11 hh => ?_)
  refine rr_if_ne (tgt := 38) dX10_fits_33 rfl (by decide) (fun hc33 => ?_) (fun hc33 => ?_)
  · have hh := hh.1 hc33
    refine rr_aload_n dX10_fits_38 rfl rfl ?_
    refine rr_iload_n dX10_fits_39 rfl rfl ?_
    refine rr_iload_n dX10_fits_40 rfl rfl ?_
    refine rr_iload dX10_fits_41 rfl rfl ?_
    refine rr_iload_n dX10_fits_43 rfl rfl ?_
    refine rr_callW (bc' := 0) (bs' := 0) (q := (some x0)) (av := [vI x1, vI n5, vI n10, vI x2]) (st := []) mf_X10_takes dX10_fits_44 rfl q_986 q_988 qs_47 ⟨_, _, rfl⟩ rfl (by decide) (Nat.le_refl _) (Nat.le_refl _) hh (rr_kV fun h13 hh => ?_)
    refine rr_aload_n dX10_fits_47 rfl rfl ?_
    refine rr_iload_n dX10_fits_48 rfl rfl ?_
    refine rr_callW (bc' := 0) (bs' := 0) (q := (some x0)) (av := [vI x1]) (st := []) mf_X10_isEnd dX10_fits_49 rfl q_1055 q_1057 qs_57 ⟨_, _, rfl⟩ rfl (by decide) (Nat.le_refl _) (Nat.le_refl _) hh (rr_kI fun n15 h14 hh => ?_)
    obtain ⟨hz16, hh⟩ := hh
    exact rr_zret dX10_fits_52 rfl (zn_b hz16) hh
  · have hh := hh.2 hc33
    refine rr_iconst dX10_fits_36 rfl ⟨by decide, by decide⟩ ?_
    exact rr_zret dX10_fits_37 rfl rfl hh
theorem dX10_windowOf_0 : decode cX10_windowOf 0 = .ok (.iconst 0, 1) := by decide +kernel
theorem dX10_windowOf_1 : decode cX10_windowOf 1 = .ok (.istore 4, 2) := by decide +kernel
theorem dX10_windowOf_3 : decode cX10_windowOf 3 = .ok (.iconst 0, 1) := by decide +kernel
theorem dX10_windowOf_4 : decode cX10_windowOf 4 = .ok (.istore 5, 2) := by decide +kernel
theorem dX10_windowOf_6 : decode cX10_windowOf 6 = .ok (.iconst 0, 1) := by decide +kernel
theorem dX10_windowOf_7 : decode cX10_windowOf 7 = .ok (.istore 6, 2) := by decide +kernel
theorem dX10_windowOf_9 : decode cX10_windowOf 9 = .ok (.iload 6, 2) := by decide +kernel
theorem dX10_windowOf_11 : decode cX10_windowOf 11 = .ok (.bipush 100, 2) := by decide +kernel
theorem dX10_windowOf_13 : decode cX10_windowOf 13 = .ok (.if_icmp .gt 111, 3) := by decide +kernel
theorem dX10_windowOf_16 : decode cX10_windowOf 16 = .ok (.iload 6, 2) := by decide +kernel
theorem dX10_windowOf_18 : decode cX10_windowOf 18 = .ok (.bipush 99, 2) := by decide +kernel
theorem dX10_windowOf_20 : decode cX10_windowOf 20 = .ok (.if_icmp .gt 17, 3) := by decide +kernel
theorem dX10_windowOf_23 : decode cX10_windowOf 23 = .ok (.aload_n 0, 1) := by decide +kernel
theorem dX10_windowOf_24 : decode cX10_windowOf 24 = .ok (.iload_n 1, 1) := by decide +kernel
theorem dX10_windowOf_25 : decode cX10_windowOf 25 = .ok (.iload 6, 2) := by decide +kernel
theorem dX10_windowOf_27 : decode cX10_windowOf 27 = .ok (.invokevirtual 197, 3) := by decide +kernel
theorem dX10_windowOf_30 : decode cX10_windowOf 30 = .ok (.ifCond .eq 7, 3) := by decide +kernel
theorem dX10_windowOf_33 : decode cX10_windowOf 33 = .ok (.iconst 1, 1) := by decide +kernel
theorem dX10_windowOf_34 : decode cX10_windowOf 34 = .ok (.goto 4, 3) := by decide +kernel
theorem dX10_windowOf_37 : decode cX10_windowOf 37 = .ok (.iconst 0, 1) := by decide +kernel
theorem dX10_windowOf_38 : decode cX10_windowOf 38 = .ok (.istore 7, 2) := by decide +kernel
theorem dX10_windowOf_40 : decode cX10_windowOf 40 = .ok (.iload 7, 2) := by decide +kernel
theorem dX10_windowOf_42 : decode cX10_windowOf 42 = .ok (.ifCond .eq 18, 3) := by decide +kernel
theorem dX10_windowOf_45 : decode cX10_windowOf 45 = .ok (.iload 4, 2) := by decide +kernel
theorem dX10_windowOf_47 : decode cX10_windowOf 47 = .ok (.ifCond .ne 13, 3) := by decide +kernel
theorem dX10_windowOf_50 : decode cX10_windowOf 50 = .ok (.iload_n 3, 1) := by decide +kernel
theorem dX10_windowOf_51 : decode cX10_windowOf 51 = .ok (.ifCond .eq 9, 3) := by decide +kernel
theorem dX10_windowOf_54 : decode cX10_windowOf 54 = .ok (.iload 5, 2) := by decide +kernel
theorem dX10_windowOf_56 : decode cX10_windowOf 56 = .ok (.iload_n 2, 1) := by decide +kernel
theorem dX10_windowOf_57 : decode cX10_windowOf 57 = .ok (.if_icmp .eq 23, 3) := by decide +kernel
theorem dX10_windowOf_60 : decode cX10_windowOf 60 = .ok (.iload 4, 2) := by decide +kernel
theorem dX10_windowOf_62 : decode cX10_windowOf 62 = .ok (.ifCond .eq 32, 3) := by decide +kernel
theorem dX10_windowOf_65 : decode cX10_windowOf 65 = .ok (.iload 7, 2) := by decide +kernel
theorem dX10_windowOf_67 : decode cX10_windowOf 67 = .ok (.ifCond .ne 27, 3) := by decide +kernel
theorem dX10_windowOf_70 : decode cX10_windowOf 70 = .ok (.iload_n 3, 1) := by decide +kernel
theorem dX10_windowOf_71 : decode cX10_windowOf 71 = .ok (.ifCond .ne 23, 3) := by decide +kernel
theorem dX10_windowOf_74 : decode cX10_windowOf 74 = .ok (.iload 5, 2) := by decide +kernel
theorem dX10_windowOf_76 : decode cX10_windowOf 76 = .ok (.iload_n 2, 1) := by decide +kernel
theorem dX10_windowOf_77 : decode cX10_windowOf 77 = .ok (.if_icmp .ne 17, 3) := by decide +kernel
theorem dX10_windowOf_80 : decode cX10_windowOf 80 = .ok (.iload_n 3, 1) := by decide +kernel
theorem dX10_windowOf_81 : decode cX10_windowOf 81 = .ok (.ifCond .eq 8, 3) := by decide +kernel
theorem dX10_windowOf_84 : decode cX10_windowOf 84 = .ok (.iload 6, 2) := by decide +kernel
theorem dX10_windowOf_86 : decode cX10_windowOf 86 = .ok (.goto 7, 3) := by decide +kernel
theorem dX10_windowOf_89 : decode cX10_windowOf 89 = .ok (.iload 6, 2) := by decide +kernel
theorem dX10_windowOf_91 : decode cX10_windowOf 91 = .ok (.iconst 1, 1) := by decide +kernel
theorem dX10_windowOf_92 : decode cX10_windowOf 92 = .ok (.isub, 1) := by decide +kernel
theorem dX10_windowOf_93 : decode cX10_windowOf 93 = .ok (.ireturn, 1) := by decide +kernel
theorem dX10_windowOf_94 : decode cX10_windowOf 94 = .ok (.iload 5, 2) := by decide +kernel
theorem dX10_windowOf_96 : decode cX10_windowOf 96 = .ok (.iload 4, 2) := by decide +kernel
theorem dX10_windowOf_98 : decode cX10_windowOf 98 = .ok (.ifCond .eq 12, 3) := by decide +kernel
theorem dX10_windowOf_101 : decode cX10_windowOf 101 = .ok (.iload 7, 2) := by decide +kernel
theorem dX10_windowOf_103 : decode cX10_windowOf 103 = .ok (.ifCond .ne 7, 3) := by decide +kernel
theorem dX10_windowOf_106 : decode cX10_windowOf 106 = .ok (.iconst 1, 1) := by decide +kernel
theorem dX10_windowOf_107 : decode cX10_windowOf 107 = .ok (.goto 4, 3) := by decide +kernel
theorem dX10_windowOf_110 : decode cX10_windowOf 110 = .ok (.iconst 0, 1) := by decide +kernel
theorem dX10_windowOf_111 : decode cX10_windowOf 111 = .ok (.iadd, 1) := by decide +kernel
theorem dX10_windowOf_112 : decode cX10_windowOf 112 = .ok (.istore 5, 2) := by decide +kernel
theorem dX10_windowOf_114 : decode cX10_windowOf 114 = .ok (.iload 7, 2) := by decide +kernel
theorem dX10_windowOf_116 : decode cX10_windowOf 116 = .ok (.istore 4, 2) := by decide +kernel
theorem dX10_windowOf_118 : decode cX10_windowOf 118 = .ok (.iinc 6 1, 3) := by decide +kernel
theorem dX10_windowOf_121 : decode cX10_windowOf 121 = .ok (.goto (-112), 3) := by decide +kernel
theorem dX10_windowOf_124 : decode cX10_windowOf 124 = .ok (.iconst (-1), 1) := by decide +kernel
theorem dX10_windowOf_125 : decode cX10_windowOf 125 = .ok (.ireturn, 1) := by decide +kernel
set_option maxRecDepth 100000 in
theorem B_X10_windowOf_0 {d : Nat} {h : AbH} {K : Option AbV → AbH → Prop} {x0 : Nat} {x1 : Int} {x2 : Int} {x3 : Int} (hh : Vx (d + 1) m_X10_windowOf 0 0 9 [some (vR (some x0)), some (vI x1), some (vI x2), some (vI x3), some (vI 0), some (vI 0), some (vI 0), none] [] h K) : Vx (d + 1) m_X10_windowOf 0 0 0 [some (vR (some x0)), some (vI x1), some (vI x2), some (vI x3)] [] h K := by
  refine Vx.pad 4 [some (vR (some x0)), some (vI x1), some (vI x2), some (vI x3), none, none, none, none] rfl ?_
  refine rr_iconst dX10_windowOf_0 rfl ⟨by decide, by decide⟩ ?_
  refine rr_istore (ls' := [some (vR (some x0)), some (vI x1), some (vI x2), some (vI x3), some (vI 0), none, none, none]) dX10_windowOf_1 rfl (by decide) (fun _ z => by cases z) rfl ?_
  refine rr_iconst dX10_windowOf_3 rfl ⟨by decide, by decide⟩ ?_
  refine rr_istore (ls' := [some (vR (some x0)), some (vI x1), some (vI x2), some (vI x3), some (vI 0), some (vI 0), none, none]) dX10_windowOf_4 rfl (by decide) (fun _ z => by cases z) rfl ?_
  refine rr_iconst dX10_windowOf_6 rfl ⟨by decide, by decide⟩ ?_
  refine rr_istore (ls' := [some (vR (some x0)), some (vI x1), some (vI x2), some (vI x3), some (vI 0), some (vI 0), some (vI 0), none]) dX10_windowOf_7 rfl (by decide) (fun _ z => by cases z) rfl ?_
  exact hh
set_option maxRecDepth 100000 in
theorem B_X10_windowOf_9 {d : Nat} {h : AbH} {K : Option AbV → AbH → Prop} {x0 : Nat} {x1 : Int} {x2 : Int} {x3 : Int} {x4 : Int} {x5 : Int} {x6 : Int} {bc bs : Nat} (hh : ((100 < x6 → K (some (vI (-1))) h) ∧ (¬ (100 < x6) → ((99 < x6 → Vx (d + 1) m_X10_windowOf bc bs 40 [some (vR (some x0)), some (vI x1), some (vI x2), some (vI x3), some (vI x4), some (vI x5), some (vI x6), some (vI 0)] [] h K) ∧ (¬ (99 < x6) → wpCV h (some x0) 9 (fun b3 => Vm d m_X10_fits [vR (some b3), vI x1, vI x6] h (kI (fun n2 h1 => ((n2 = 0 → Vx (d + 1) m_X10_windowOf bc bs 40 [some (vR (some x0)), some (vI x1), some (vI x2), some (vI x3), some (vI x4), some (vI x5), some (vI x6), some (vI 0)] [] h1 K) ∧ (¬ (n2 = 0) → Vx (d + 1) m_X10_windowOf bc bs 40 [some (vR (some x0)), some (vI x1), some (vI x2), some (vI x3), some (vI x4), some (vI x5), some (vI x6), some (vI 1)] [] h1 K)))))))))) : Vx (d + 1) m_X10_windowOf bc bs 9 [some (vR (some x0)), some (vI x1), some (vI x2), some (vI x3), some (vI x4), some (vI x5), some (vI x6), none] [] h K := by
  refine rr_iload dX10_windowOf_9 rfl rfl ?_
  refine rr_bipush dX10_windowOf_11 rfl ⟨by decide, by decide⟩ rfl ?_
  refine rr_icmp_gt (tgt := 124) dX10_windowOf_13 rfl (by decide) (fun hc13 => ?_) (fun hc13 => ?_)
  · have hh := hh.1 hc13
    refine rr_iconst dX10_windowOf_124 rfl ⟨by decide, by decide⟩ ?_
    exact rr_iret dX10_windowOf_125 rfl hh
  · have hh := hh.2 hc13
    refine rr_iload dX10_windowOf_16 rfl rfl ?_
    refine rr_bipush dX10_windowOf_18 rfl ⟨by decide, by decide⟩ rfl ?_
    refine rr_icmp_gt (tgt := 37) dX10_windowOf_20 rfl (by decide) (fun hc20 => ?_) (fun hc20 => ?_)
    · have hh := hh.1 hc20
      refine rr_iconst dX10_windowOf_37 rfl ⟨by decide, by decide⟩ ?_
      refine rr_istore (ls' := [some (vR (some x0)), some (vI x1), some (vI x2), some (vI x3), some (vI x4), some (vI x5), some (vI x6), some (vI 0)]) dX10_windowOf_38 rfl (by decide) (fun _ z => by cases z) rfl ?_
      exact hh
    · have hh := hh.2 hc20
      refine rr_aload_n dX10_windowOf_23 rfl rfl ?_
      refine rr_iload_n dX10_windowOf_24 rfl rfl ?_
      refine rr_iload dX10_windowOf_25 rfl rfl ?_
      refine rr_callW (bc' := bc) (bs' := bs) (q := (some x0)) (av := [vI x1, vI x6]) (st := []) mf_X10_fits dX10_windowOf_27 rfl q_1047 q_1049 qs_55 ⟨_, _, rfl⟩ rfl (by decide) (Nat.le_refl _) (Nat.le_refl _) hh (rr_kI fun n2 h1 hh => ?_)
      refine rr_if_eq (tgt := 37) dX10_windowOf_30 rfl (by decide) (fun hc30 => ?_) (fun hc30 => ?_)
      · have hh := hh.1 hc30
        refine rr_iconst dX10_windowOf_37 rfl ⟨by decide, by decide⟩ ?_
        refine rr_istore (ls' := [some (vR (some x0)), some (vI x1), some (vI x2), some (vI x3), some (vI x4), some (vI x5), some (vI x6), some (vI 0)]) dX10_windowOf_38 rfl (by decide) (fun _ z => by cases z) rfl ?_
        exact hh
      · have hh := hh.2 hc30
        refine rr_iconst dX10_windowOf_33 rfl ⟨by decide, by decide⟩ ?_
        refine rr_goto (pc' := 38) dX10_windowOf_34 (by decide) ?_
        refine rr_istore (ls' := [some (vR (some x0)), some (vI x1), some (vI x2), some (vI x3), some (vI x4), some (vI x5), some (vI x6), some (vI 1)]) dX10_windowOf_38 rfl (by decide) (fun _ z => by cases z) rfl ?_
        exact hh
set_option maxRecDepth 100000 in
theorem B_X10_windowOf_40 {d : Nat} {h : AbH} {K : Option AbV → AbH → Prop} {x0 : Nat} {x1 : Int} {x2 : Int} {x3 : Int} {x4 : Int} {x5 : Int} {x6 : Int} {x7 : Int} {bc bs : Nat} (hh : ((x7 = 0 → ((x4 = 0 → Vx (d + 1) m_X10_windowOf bc bs 94 [some (vR (some x0)), some (vI x1), some (vI x2), some (vI x3), some (vI x4), some (vI x5), some (vI x6), some (vI x7)] [] h K) ∧ (¬ (x4 = 0) → ((x7 ≠ 0 → Vx (d + 1) m_X10_windowOf bc bs 94 [some (vR (some x0)), some (vI x1), some (vI x2), some (vI x3), some (vI x4), some (vI x5), some (vI x6), some (vI x7)] [] h K) ∧ (¬ (x7 ≠ 0) → ((x3 ≠ 0 → Vx (d + 1) m_X10_windowOf bc bs 94 [some (vR (some x0)), some (vI x1), some (vI x2), some (vI x3), some (vI x4), some (vI x5), some (vI x6), some (vI x7)] [] h K) ∧ (¬ (x3 ≠ 0) → ((x5 ≠ x2 → Vx (d + 1) m_X10_windowOf bc bs 94 [some (vR (some x0)), some (vI x1), some (vI x2), some (vI x3), some (vI x4), some (vI x5), some (vI x6), some (vI x7)] [] h K) ∧ (¬ (x5 ≠ x2) → ((x3 = 0 → in32 (x6 - 1) ∧ K (some (vI (x6 - 1))) h) ∧ (¬ (x3 = 0) → K (some (vI x6)) h))))))))))) ∧ (¬ (x7 = 0) → ((x4 ≠ 0 → ((x4 = 0 → Vx (d + 1) m_X10_windowOf bc bs 94 [some (vR (some x0)), some (vI x1), some (vI x2), some (vI x3), some (vI x4), some (vI x5), some (vI x6), some (vI x7)] [] h K) ∧ (¬ (x4 = 0) → ((x7 ≠ 0 → Vx (d + 1) m_X10_windowOf bc bs 94 [some (vR (some x0)), some (vI x1), some (vI x2), some (vI x3), some (vI x4), some (vI x5), some (vI x6), some (vI x7)] [] h K) ∧ (¬ (x7 ≠ 0) → ((x3 ≠ 0 → Vx (d + 1) m_X10_windowOf bc bs 94 [some (vR (some x0)), some (vI x1), some (vI x2), some (vI x3), some (vI x4), some (vI x5), some (vI x6), some (vI x7)] [] h K) ∧ (¬ (x3 ≠ 0) → ((x5 ≠ x2 → Vx (d + 1) m_X10_windowOf bc bs 94 [some (vR (some x0)), some (vI x1), some (vI x2), some (vI x3), some (vI x4), some (vI x5), some (vI x6), some (vI x7)] [] h K) ∧ (¬ (x5 ≠ x2) → ((x3 = 0 → in32 (x6 - 1) ∧ K (some (vI (x6 - 1))) h) ∧ (¬ (x3 = 0) → K (some (vI x6)) h))))))))))) ∧ (¬ (x4 ≠ 0) → ((x3 = 0 → ((x4 = 0 → Vx (d + 1) m_X10_windowOf bc bs 94 [some (vR (some x0)), some (vI x1), some (vI x2), some (vI x3), some (vI x4), some (vI x5), some (vI x6), some (vI x7)] [] h K) ∧ (¬ (x4 = 0) → ((x7 ≠ 0 → Vx (d + 1) m_X10_windowOf bc bs 94 [some (vR (some x0)), some (vI x1), some (vI x2), some (vI x3), some (vI x4), some (vI x5), some (vI x6), some (vI x7)] [] h K) ∧ (¬ (x7 ≠ 0) → ((x3 ≠ 0 → Vx (d + 1) m_X10_windowOf bc bs 94 [some (vR (some x0)), some (vI x1), some (vI x2), some (vI x3), some (vI x4), some (vI x5), some (vI x6), some (vI x7)] [] h K) ∧ (¬ (x3 ≠ 0) → ((x5 ≠ x2 → Vx (d + 1) m_X10_windowOf bc bs 94 [some (vR (some x0)), some (vI x1), some (vI x2), some (vI x3), some (vI x4), some (vI x5), some (vI x6), some (vI x7)] [] h K) ∧ (¬ (x5 ≠ x2) → ((x3 = 0 → in32 (x6 - 1) ∧ K (some (vI (x6 - 1))) h) ∧ (¬ (x3 = 0) → K (some (vI x6)) h))))))))))) ∧ (¬ (x3 = 0) → ((x5 = x2 → ((x3 = 0 → in32 (x6 - 1) ∧ K (some (vI (x6 - 1))) h) ∧ (¬ (x3 = 0) → K (some (vI x6)) h))) ∧ (¬ (x5 = x2) → ((x4 = 0 → Vx (d + 1) m_X10_windowOf bc bs 94 [some (vR (some x0)), some (vI x1), some (vI x2), some (vI x3), some (vI x4), some (vI x5), some (vI x6), some (vI x7)] [] h K) ∧ (¬ (x4 = 0) → ((x7 ≠ 0 → Vx (d + 1) m_X10_windowOf bc bs 94 [some (vR (some x0)), some (vI x1), some (vI x2), some (vI x3), some (vI x4), some (vI x5), some (vI x6), some (vI x7)] [] h K) ∧ (¬ (x7 ≠ 0) → ((x3 ≠ 0 → Vx (d + 1) m_X10_windowOf bc bs 94 [some (vR (some x0)), some (vI x1), some (vI x2), some (vI x3), some (vI x4), some (vI x5), some (vI x6), some (vI x7)] [] h K) ∧ (¬ (x3 ≠ 0) → ((x5 ≠ x2 → Vx (d + 1) m_X10_windowOf bc bs 94 [some (vR (some x0)), some (vI x1), some (vI x2), some (vI x3), some (vI x4), some (vI x5), some (vI x6), some (vI x7)] [] h K) ∧ (¬ (x5 ≠ x2) → ((x3 = 0 → in32 (x6 - 1) ∧ K (some (vI (x6 - 1))) h) ∧ (¬ (x3 = 0) → K (some (vI x6)) h))))))))))))))))))) : Vx (d + 1) m_X10_windowOf bc bs 40 [some (vR (some x0)), some (vI x1), some (vI x2), some (vI x3), some (vI x4), some (vI x5), some (vI x6), some (vI x7)] [] h K := by
  refine rr_iload dX10_windowOf_40 rfl rfl ?_
  refine rr_if_eq (tgt := 60) dX10_windowOf_42 rfl (by decide) (fun hc42 => ?_) (fun hc42 => ?_)
  · have hh := hh.1 hc42
    refine rr_iload dX10_windowOf_60 rfl rfl ?_
    refine rr_if_eq (tgt := 94) dX10_windowOf_62 rfl (by decide) (fun hc62 => ?_) (fun hc62 => ?_)
    · have hh := hh.1 hc62
      exact hh
    · have hh := hh.2 hc62
      refine rr_iload dX10_windowOf_65 rfl rfl ?_
      refine rr_if_ne (tgt := 94) dX10_windowOf_67 rfl (by decide) (fun hc67 => ?_) (fun hc67 => ?_)
      · have hh := hh.1 hc67
        exact hh
      · have hh := hh.2 hc67
        refine rr_iload_n dX10_windowOf_70 rfl rfl ?_
        refine rr_if_ne (tgt := 94) dX10_windowOf_71 rfl (by decide) (fun hc71 => ?_) (fun hc71 => ?_)
        · have hh := hh.1 hc71
          exact hh
        · have hh := hh.2 hc71
          refine rr_iload dX10_windowOf_74 rfl rfl ?_
          refine rr_iload_n dX10_windowOf_76 rfl rfl ?_
          refine rr_icmp_ne (tgt := 94) dX10_windowOf_77 rfl (by decide) (fun hc77 => ?_) (fun hc77 => ?_)
          · have hh := hh.1 hc77
            exact hh
          · have hh := hh.2 hc77
            refine rr_iload_n dX10_windowOf_80 rfl rfl ?_
            refine rr_if_eq (tgt := 89) dX10_windowOf_81 rfl (by decide) (fun hc81 => ?_) (fun hc81 => ?_)
            · have hh := hh.1 hc81
              refine rr_iload dX10_windowOf_89 rfl rfl ?_
              refine rr_iconst dX10_windowOf_91 rfl ⟨by decide, by decide⟩ ?_
              obtain ⟨hz1, hh⟩ := hh
              refine rr_isub dX10_windowOf_92 rfl hz1 ?_
              exact rr_iret dX10_windowOf_93 rfl hh
            · have hh := hh.2 hc81
              refine rr_iload dX10_windowOf_84 rfl rfl ?_
              refine rr_goto (pc' := 93) dX10_windowOf_86 (by decide) ?_
              exact rr_iret dX10_windowOf_93 rfl hh
  · have hh := hh.2 hc42
    refine rr_iload dX10_windowOf_45 rfl rfl ?_
    refine rr_if_ne (tgt := 60) dX10_windowOf_47 rfl (by decide) (fun hc47 => ?_) (fun hc47 => ?_)
    · have hh := hh.1 hc47
      refine rr_iload dX10_windowOf_60 rfl rfl ?_
      refine rr_if_eq (tgt := 94) dX10_windowOf_62 rfl (by decide) (fun hc62 => ?_) (fun hc62 => ?_)
      · have hh := hh.1 hc62
        exact hh
      · have hh := hh.2 hc62
        refine rr_iload dX10_windowOf_65 rfl rfl ?_
        refine rr_if_ne (tgt := 94) dX10_windowOf_67 rfl (by decide) (fun hc67 => ?_) (fun hc67 => ?_)
        · have hh := hh.1 hc67
          exact hh
        · have hh := hh.2 hc67
          refine rr_iload_n dX10_windowOf_70 rfl rfl ?_
          refine rr_if_ne (tgt := 94) dX10_windowOf_71 rfl (by decide) (fun hc71 => ?_) (fun hc71 => ?_)
          · have hh := hh.1 hc71
            exact hh
          · have hh := hh.2 hc71
            refine rr_iload dX10_windowOf_74 rfl rfl ?_
            refine rr_iload_n dX10_windowOf_76 rfl rfl ?_
            refine rr_icmp_ne (tgt := 94) dX10_windowOf_77 rfl (by decide) (fun hc77 => ?_) (fun hc77 => ?_)
            · have hh := hh.1 hc77
              exact hh
            · have hh := hh.2 hc77
              refine rr_iload_n dX10_windowOf_80 rfl rfl ?_
              refine rr_if_eq (tgt := 89) dX10_windowOf_81 rfl (by decide) (fun hc81 => ?_) (fun hc81 => ?_)
              · have hh := hh.1 hc81
                refine rr_iload dX10_windowOf_89 rfl rfl ?_
                refine rr_iconst dX10_windowOf_91 rfl ⟨by decide, by decide⟩ ?_
                obtain ⟨hz2, hh⟩ := hh
                refine rr_isub dX10_windowOf_92 rfl hz2 ?_
                exact rr_iret dX10_windowOf_93 rfl hh
              · have hh := hh.2 hc81
                refine rr_iload dX10_windowOf_84 rfl rfl ?_
                refine rr_goto (pc' := 93) dX10_windowOf_86 (by decide) ?_
                exact rr_iret dX10_windowOf_93 rfl hh
    · have hh := hh.2 hc47
      refine rr_iload_n dX10_windowOf_50 rfl rfl ?_
      refine rr_if_eq (tgt := 60) dX10_windowOf_51 rfl (by decide) (fun hc51 => ?_) (fun hc51 => ?_)
      · have hh := hh.1 hc51
        refine rr_iload dX10_windowOf_60 rfl rfl ?_
        refine rr_if_eq (tgt := 94) dX10_windowOf_62 rfl (by decide) (fun hc62 => ?_) (fun hc62 => ?_)
        · have hh := hh.1 hc62
          exact hh
        · have hh := hh.2 hc62
          refine rr_iload dX10_windowOf_65 rfl rfl ?_
          refine rr_if_ne (tgt := 94) dX10_windowOf_67 rfl (by decide) (fun hc67 => ?_) (fun hc67 => ?_)
          · have hh := hh.1 hc67
            exact hh
          · have hh := hh.2 hc67
            refine rr_iload_n dX10_windowOf_70 rfl rfl ?_
            refine rr_if_ne (tgt := 94) dX10_windowOf_71 rfl (by decide) (fun hc71 => ?_) (fun hc71 => ?_)
            · have hh := hh.1 hc71
              exact hh
            · have hh := hh.2 hc71
              refine rr_iload dX10_windowOf_74 rfl rfl ?_
              refine rr_iload_n dX10_windowOf_76 rfl rfl ?_
              refine rr_icmp_ne (tgt := 94) dX10_windowOf_77 rfl (by decide) (fun hc77 => ?_) (fun hc77 => ?_)
              · have hh := hh.1 hc77
                exact hh
              · have hh := hh.2 hc77
                refine rr_iload_n dX10_windowOf_80 rfl rfl ?_
                refine rr_if_eq (tgt := 89) dX10_windowOf_81 rfl (by decide) (fun hc81 => ?_) (fun hc81 => ?_)
                · have hh := hh.1 hc81
                  refine rr_iload dX10_windowOf_89 rfl rfl ?_
                  refine rr_iconst dX10_windowOf_91 rfl ⟨by decide, by decide⟩ ?_
                  obtain ⟨hz3, hh⟩ := hh
                  refine rr_isub dX10_windowOf_92 rfl hz3 ?_
                  exact rr_iret dX10_windowOf_93 rfl hh
                · have hh := hh.2 hc81
                  refine rr_iload dX10_windowOf_84 rfl rfl ?_
                  refine rr_goto (pc' := 93) dX10_windowOf_86 (by decide) ?_
                  exact rr_iret dX10_windowOf_93 rfl hh
      · have hh := hh.2 hc51
        refine rr_iload dX10_windowOf_54 rfl rfl ?_
        refine rr_iload_n dX10_windowOf_56 rfl rfl ?_
        refine rr_icmp_eq (tgt := 80) dX10_windowOf_57 rfl (by decide) (fun hc57 => ?_) (fun hc57 => ?_)
        · have hh := hh.1 hc57
          refine rr_iload_n dX10_windowOf_80 rfl rfl ?_
          refine rr_if_eq (tgt := 89) dX10_windowOf_81 rfl (by decide) (fun hc81 => ?_) (fun hc81 => ?_)
          · have hh := hh.1 hc81
            refine rr_iload dX10_windowOf_89 rfl rfl ?_
            refine rr_iconst dX10_windowOf_91 rfl ⟨by decide, by decide⟩ ?_
            obtain ⟨hz4, hh⟩ := hh
            refine rr_isub dX10_windowOf_92 rfl hz4 ?_
            exact rr_iret dX10_windowOf_93 rfl hh
          · have hh := hh.2 hc81
            refine rr_iload dX10_windowOf_84 rfl rfl ?_
            refine rr_goto (pc' := 93) dX10_windowOf_86 (by decide) ?_
            exact rr_iret dX10_windowOf_93 rfl hh
        · have hh := hh.2 hc57
          refine rr_iload dX10_windowOf_60 rfl rfl ?_
          refine rr_if_eq (tgt := 94) dX10_windowOf_62 rfl (by decide) (fun hc62 => ?_) (fun hc62 => ?_)
          · have hh := hh.1 hc62
            exact hh
          · have hh := hh.2 hc62
            refine rr_iload dX10_windowOf_65 rfl rfl ?_
            refine rr_if_ne (tgt := 94) dX10_windowOf_67 rfl (by decide) (fun hc67 => ?_) (fun hc67 => ?_)
            · have hh := hh.1 hc67
              exact hh
            · have hh := hh.2 hc67
              refine rr_iload_n dX10_windowOf_70 rfl rfl ?_
              refine rr_if_ne (tgt := 94) dX10_windowOf_71 rfl (by decide) (fun hc71 => ?_) (fun hc71 => ?_)
              · have hh := hh.1 hc71
                exact hh
              · have hh := hh.2 hc71
                refine rr_iload dX10_windowOf_74 rfl rfl ?_
                refine rr_iload_n dX10_windowOf_76 rfl rfl ?_
                refine rr_icmp_ne (tgt := 94) dX10_windowOf_77 rfl (by decide) (fun hc77 => ?_) (fun hc77 => ?_)
                · have hh := hh.1 hc77
                  exact hh
                · have hh := hh.2 hc77
                  refine rr_iload_n dX10_windowOf_80 rfl rfl ?_
                  refine rr_if_eq (tgt := 89) dX10_windowOf_81 rfl (by decide) (fun hc81 => ?_) (fun hc81 => ?_)
                  · have hh := hh.1 hc81
                    refine rr_iload dX10_windowOf_89 rfl rfl ?_
                    refine rr_iconst dX10_windowOf_91 rfl ⟨by decide, by decide⟩ ?_
                    obtain ⟨hz5, hh⟩ := hh
                    refine rr_isub dX10_windowOf_92 rfl hz5 ?_
                    exact rr_iret dX10_windowOf_93 rfl hh
                  · have hh := hh.2 hc81
                    refine rr_iload dX10_windowOf_84 rfl rfl ?_
                    refine rr_goto (pc' := 93) dX10_windowOf_86 (by decide) ?_
                    exact rr_iret dX10_windowOf_93 rfl hh
set_option maxRecDepth 100000 in
theorem B_X10_windowOf_94 {d : Nat} {h : AbH} {K : Option AbV → AbH → Prop} {x0 : Nat} {x1 : Int} {x2 : Int} {x3 : Int} {x4 : Int} {x5 : Int} {x6 : Int} {x7 : Int} {bc bs : Nat} (hh : ((x4 = 0 → in32 (x5 + 0) ∧ Vx (d + 1) m_X10_windowOf bc bs 114 [some (vR (some x0)), some (vI x1), some (vI x2), some (vI x3), some (vI x4), some (vI (x5 + 0)), some (vI x6), some (vI x7)] [] h K) ∧ (¬ (x4 = 0) → ((x7 ≠ 0 → in32 (x5 + 0) ∧ Vx (d + 1) m_X10_windowOf bc bs 114 [some (vR (some x0)), some (vI x1), some (vI x2), some (vI x3), some (vI x4), some (vI (x5 + 0)), some (vI x6), some (vI x7)] [] h K) ∧ (¬ (x7 ≠ 0) → in32 (x5 + 1) ∧ Vx (d + 1) m_X10_windowOf bc bs 114 [some (vR (some x0)), some (vI x1), some (vI x2), some (vI x3), some (vI x4), some (vI (x5 + 1)), some (vI x6), some (vI x7)] [] h K))))) : Vx (d + 1) m_X10_windowOf bc bs 94 [some (vR (some x0)), some (vI x1), some (vI x2), some (vI x3), some (vI x4), some (vI x5), some (vI x6), some (vI x7)] [] h K := by
  refine rr_iload dX10_windowOf_94 rfl rfl ?_
  refine rr_iload dX10_windowOf_96 rfl rfl ?_
  refine rr_if_eq (tgt := 110) dX10_windowOf_98 rfl (by decide) (fun hc98 => ?_) (fun hc98 => ?_)
  · have hh := hh.1 hc98
    refine rr_iconst dX10_windowOf_110 rfl ⟨by decide, by decide⟩ ?_
    obtain ⟨hz1, hh⟩ := hh
    refine rr_iadd dX10_windowOf_111 rfl hz1 ?_
    refine rr_istore (ls' := [some (vR (some x0)), some (vI x1), some (vI x2), some (vI x3), some (vI x4), some (vI (x5 + 0)), some (vI x6), some (vI x7)]) dX10_windowOf_112 rfl (by decide) (fun _ z => by cases z) rfl ?_
    exact hh
  · have hh := hh.2 hc98
    refine rr_iload dX10_windowOf_101 rfl rfl ?_
    refine rr_if_ne (tgt := 110) dX10_windowOf_103 rfl (by decide) (fun hc103 => ?_) (fun hc103 => ?_)
    · have hh := hh.1 hc103
      refine rr_iconst dX10_windowOf_110 rfl ⟨by decide, by decide⟩ ?_
      obtain ⟨hz2, hh⟩ := hh
      refine rr_iadd dX10_windowOf_111 rfl hz2 ?_
      refine rr_istore (ls' := [some (vR (some x0)), some (vI x1), some (vI x2), some (vI x3), some (vI x4), some (vI (x5 + 0)), some (vI x6), some (vI x7)]) dX10_windowOf_112 rfl (by decide) (fun _ z => by cases z) rfl ?_
      exact hh
    · have hh := hh.2 hc103
      refine rr_iconst dX10_windowOf_106 rfl ⟨by decide, by decide⟩ ?_
      refine rr_goto (pc' := 111) dX10_windowOf_107 (by decide) ?_
      obtain ⟨hz3, hh⟩ := hh
      refine rr_iadd dX10_windowOf_111 rfl hz3 ?_
      refine rr_istore (ls' := [some (vR (some x0)), some (vI x1), some (vI x2), some (vI x3), some (vI x4), some (vI (x5 + 1)), some (vI x6), some (vI x7)]) dX10_windowOf_112 rfl (by decide) (fun _ z => by cases z) rfl ?_
      exact hh
set_option maxRecDepth 100000 in
theorem B_X10_windowOf_114 {d : Nat} {h : AbH} {K : Option AbV → AbH → Prop} {x0 : Nat} {x1 : Int} {x2 : Int} {x3 : Int} {x4 : Int} {x5 : Int} {x6 : Int} {x7 : Int} {bc bs : Nat} (hh : in32 (x6 + 1) ∧ Vx (d + 1) m_X10_windowOf bc bs 9 [some (vR (some x0)), some (vI x1), some (vI x2), some (vI x3), some (vI x7), some (vI x5), some (vI (x6 + 1)), none] [] h K) : Vx (d + 1) m_X10_windowOf bc bs 114 [some (vR (some x0)), some (vI x1), some (vI x2), some (vI x3), some (vI x4), some (vI x5), some (vI x6), some (vI x7)] [] h K := by
  refine rr_iload dX10_windowOf_114 rfl rfl ?_
  refine rr_istore (ls' := [some (vR (some x0)), some (vI x1), some (vI x2), some (vI x3), some (vI x7), some (vI x5), some (vI x6), some (vI x7)]) dX10_windowOf_116 rfl (by decide) (fun _ z => by cases z) rfl ?_
  obtain ⟨hz1, hh⟩ := hh
  refine rr_iinc (ls' := [some (vR (some x0)), some (vI x1), some (vI x2), some (vI x3), some (vI x7), some (vI x5), some (vI (x6 + 1)), some (vI x7)]) dX10_windowOf_118 rfl rfl (by decide) (fun _ z => by cases z) hz1 rfl ?_
  refine rr_goto (pc' := 9) dX10_windowOf_121 (by decide) ?_
  exact Vx.forget (ls' := [some (vR (some x0)), some (vI x1), some (vI x2), some (vI x3), some (vI x7), some (vI x5), some (vI (x6 + 1)), none]) (And.intro rfl (And.intro rfl (And.intro rfl (And.intro rfl (And.intro rfl (And.intro rfl (And.intro rfl trivial))))))) hh
