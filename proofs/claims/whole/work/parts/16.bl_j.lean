theorem dJ0_length_8abf5_0 : decode cJ0_length_8abf5 0 = .ok (.aload_n 0, 1) := by decide +kernel
theorem dJ0_length_8abf5_1 : decode cJ0_length_8abf5 1 = .ok (.getfield 9, 3) := by decide +kernel
theorem dJ0_length_8abf5_4 : decode cJ0_length_8abf5 4 = .ok (.arraylength, 1) := by decide +kernel
theorem dJ0_length_8abf5_5 : decode cJ0_length_8abf5 5 = .ok (.aload_n 0, 1) := by decide +kernel
theorem dJ0_length_8abf5_6 : decode cJ0_length_8abf5 6 = .ok (.invokevirtual 335, 3) := by decide +kernel
theorem dJ0_length_8abf5_9 : decode cJ0_length_8abf5 9 = .ok (.ishr, 1) := by decide +kernel
theorem dJ0_length_8abf5_10 : decode cJ0_length_8abf5 10 = .ok (.ireturn, 1) := by decide +kernel
set_option maxRecDepth 100000 in
theorem B_J0_length_8abf5_0 {d : Nat} {h : AbH} {K : Option AbV → AbH → Prop} {x0 : Nat} (hh : wpSV h (some x0) (fun r1 => wpNB h r1 (fun n2 => wpCT h (some x0) (fun b6 => Vm d m_J0_coder_7d493 [vR (some b6)] h (kI (fun n4 h3 => n4 = 0 ∧ K (some (vI n2)) h3)))))) : Vx (d + 1) m_J0_length_8abf5 0 0 0 [some (vR (some x0))] [] h K := by
  refine rr_aload_n dJ0_length_8abf5_0 rfl rfl ?_
  refine rr_strV dJ0_length_8abf5_1 rfl q_1151 hh (fun r1 hh => ?_)
  refine rr_alenB dJ0_length_8abf5_4 rfl hh (fun n2 hh => ?_)
  refine rr_aload_n dJ0_length_8abf5_5 rfl rfl ?_
  refine rr_callT (bc' := 0) (bs' := 0) (q := (some x0)) (av := []) (st := [vI n2]) mf_J0_coder_7d493 dJ0_length_8abf5_6 rfl q_258 q_259 q_260 rfl rfl (show 1 ≤ 8 by decide) (Nat.le_refl _) (Nat.le_refl _) hh (rr_kI fun n4 h3 hh => ?_)
  obtain ⟨hz5, hh⟩ := hh
  rw [hz5]
  refine rr_ishr0 dJ0_length_8abf5_9 rfl ?_
  exact rr_iret dJ0_length_8abf5_10 rfl hh
theorem dJ0_charAt_5068e_0 : decode cJ0_charAt_5068e 0 = .ok (.aload_n 0, 1) := by decide +kernel
theorem dJ0_charAt_5068e_1 : decode cJ0_charAt_5068e 1 = .ok (.invokevirtual 492, 3) := by decide +kernel
theorem dJ0_charAt_5068e_4 : decode cJ0_charAt_5068e 4 = .ok (.ifCond .eq 12, 3) := by decide +kernel
theorem dJ0_charAt_5068e_7 : decode cJ0_charAt_5068e 7 = .ok (.aload_n 0, 1) := by decide +kernel
theorem dJ0_charAt_5068e_8 : decode cJ0_charAt_5068e 8 = .ok (.getfield 9, 3) := by decide +kernel
theorem dJ0_charAt_5068e_11 : decode cJ0_charAt_5068e 11 = .ok (.iload_n 1, 1) := by decide +kernel
theorem dJ0_charAt_5068e_12 : decode cJ0_charAt_5068e 12 = .ok (.invokestatic 495, 3) := by decide +kernel
theorem dJ0_charAt_5068e_15 : decode cJ0_charAt_5068e 15 = .ok (.ireturn, 1) := by decide +kernel
theorem dJ0_charAt_5068e_16 : decode cJ0_charAt_5068e 16 = .ok (.aload_n 0, 1) := by decide +kernel
theorem dJ0_charAt_5068e_17 : decode cJ0_charAt_5068e 17 = .ok (.getfield 9, 3) := by decide +kernel
theorem dJ0_charAt_5068e_20 : decode cJ0_charAt_5068e 20 = .ok (.iload_n 1, 1) := by decide +kernel
theorem dJ0_charAt_5068e_21 : decode cJ0_charAt_5068e 21 = .ok (.invokestatic 498, 3) := by decide +kernel
theorem dJ0_charAt_5068e_24 : decode cJ0_charAt_5068e 24 = .ok (.ireturn, 1) := by decide +kernel
set_option maxRecDepth 100000 in
theorem B_J0_charAt_5068e_0 {d : Nat} {h : AbH} {K : Option AbV → AbH → Prop} {x0 : Nat} {x1 : Int} (hh : wpCT h (some x0) (fun b11 => Vm d m_J0_isLatin1_aae02 [vR (some b11)] h (kI (fun n2 h1 => ((n2 = 0 → wpSV h1 (some x0) (fun r3 => Vm d m_J2_charAt_3b067 [vR r3, vI x1] h1 (kI (fun n5 h4 => (0 ≤ n5 ∧ n5 < 65536) ∧ K (some (vI n5)) h4)))) ∧ (¬ (n2 = 0) → wpSV h1 (some x0) (fun r7 => Vm d m_J1_charAt_3b067 [vR r7, vI x1] h1 (kI (fun n9 h8 => (0 ≤ n9 ∧ n9 < 65536) ∧ K (some (vI n9)) h8))))))))) : Vx (d + 1) m_J0_charAt_5068e 0 0 0 [some (vR (some x0)), some (vI x1)] [] h K := by
  refine rr_aload_n dJ0_charAt_5068e_0 rfl rfl ?_
  refine rr_callT (bc' := 0) (bs' := 0) (q := (some x0)) (av := []) (st := []) mf_J0_isLatin1_aae02 dJ0_charAt_5068e_1 rfl q_268 q_269 q_270 rfl rfl (by decide) (Nat.le_refl _) (Nat.le_refl _) hh (rr_kI fun n2 h1 hh => ?_)
  refine rr_if_eq (tgt := 16) dJ0_charAt_5068e_4 rfl (by decide) (fun hc4 => ?_) (fun hc4 => ?_)
  · have hh := hh.1 hc4
    refine rr_aload_n dJ0_charAt_5068e_16 rfl rfl ?_
    refine rr_strV dJ0_charAt_5068e_17 rfl q_1151 hh (fun r3 hh => ?_)
    refine rr_iload_n dJ0_charAt_5068e_20 rfl rfl ?_
    refine rr_callS (bc' := 0) (bs' := 0) (av := [vR r3, vI x1]) (st := []) mf_J2_charAt_3b067 dJ0_charAt_5068e_21 rfl q_283 q_284 rfl (by decide) (Nat.le_refl _) (Nat.le_refl _) hh (rr_kI fun n5 h4 hh => ?_)
    obtain ⟨hz6, hh⟩ := hh
    exact rr_zret dJ0_charAt_5068e_24 rfl (zn_c hz6) hh
  · have hh := hh.2 hc4
    refine rr_aload_n dJ0_charAt_5068e_7 rfl rfl ?_
    refine rr_strV dJ0_charAt_5068e_8 rfl q_1151 hh (fun r7 hh => ?_)
    refine rr_iload_n dJ0_charAt_5068e_11 rfl rfl ?_
    refine rr_callS (bc' := 0) (bs' := 0) (av := [vR r7, vI x1]) (st := []) mf_J1_charAt_3b067 dJ0_charAt_5068e_12 rfl q_272 q_273 rfl (by decide) (Nat.le_refl _) (Nat.le_refl _) hh (rr_kI fun n9 h8 hh => ?_)
    obtain ⟨hz10, hh⟩ := hh
    exact rr_zret dJ0_charAt_5068e_15 rfl (zn_c hz10) hh
theorem dJ0_coder_7d493_0 : decode cJ0_coder_7d493 0 = .ok (.getstatic 38, 3) := by decide +kernel
theorem dJ0_coder_7d493_3 : decode cJ0_coder_7d493 3 = .ok (.ifCond .eq 10, 3) := by decide +kernel
theorem dJ0_coder_7d493_6 : decode cJ0_coder_7d493 6 = .ok (.aload_n 0, 1) := by decide +kernel
theorem dJ0_coder_7d493_7 : decode cJ0_coder_7d493 7 = .ok (.getfield 15, 3) := by decide +kernel
theorem dJ0_coder_7d493_10 : decode cJ0_coder_7d493 10 = .ok (.goto 4, 3) := by decide +kernel
theorem dJ0_coder_7d493_13 : decode cJ0_coder_7d493 13 = .ok (.iconst 1, 1) := by decide +kernel
theorem dJ0_coder_7d493_14 : decode cJ0_coder_7d493 14 = .ok (.ireturn, 1) := by decide +kernel
set_option maxRecDepth 100000 in
theorem B_J0_coder_7d493_0 {d : Nat} {h : AbH} {K : Option AbV → AbH → Prop} {x0 : Nat} (hh : wpSC h (some x0) (fun n1 => n1 = 0 ∧ K (some (vI n1)) h)) : Vx (d + 1) m_J0_coder_7d493 0 0 0 [some (vR (some x0))] [] h K := by
  refine rr_getsC dJ0_coder_7d493_0 rfl q_262 ?_
  refine rr_if_eq (tgt := 13) dJ0_coder_7d493_3 rfl (by decide) (fun hc => absurd hc (by decide)) (fun _ => ?_)
  refine rr_aload_n dJ0_coder_7d493_6 rfl rfl ?_
  refine rr_strC dJ0_coder_7d493_7 rfl q_1152 hh (fun n1 hh => ?_)
  refine rr_goto (pc' := 14) dJ0_coder_7d493_10 (by decide) ?_
  obtain ⟨hz2, hh⟩ := hh
  exact rr_zret dJ0_coder_7d493_14 rfl (zn_y hz2) hh
theorem dJ0_isLatin1_aae02_0 : decode cJ0_isLatin1_aae02 0 = .ok (.getstatic 38, 3) := by decide +kernel
theorem dJ0_isLatin1_aae02_3 : decode cJ0_isLatin1_aae02 3 = .ok (.ifCond .eq 14, 3) := by decide +kernel
theorem dJ0_isLatin1_aae02_6 : decode cJ0_isLatin1_aae02 6 = .ok (.aload_n 0, 1) := by decide +kernel
theorem dJ0_isLatin1_aae02_7 : decode cJ0_isLatin1_aae02 7 = .ok (.getfield 15, 3) := by decide +kernel
theorem dJ0_isLatin1_aae02_10 : decode cJ0_isLatin1_aae02 10 = .ok (.ifCond .ne 7, 3) := by decide +kernel
theorem dJ0_isLatin1_aae02_13 : decode cJ0_isLatin1_aae02 13 = .ok (.iconst 1, 1) := by decide +kernel
theorem dJ0_isLatin1_aae02_14 : decode cJ0_isLatin1_aae02 14 = .ok (.goto 4, 3) := by decide +kernel
theorem dJ0_isLatin1_aae02_17 : decode cJ0_isLatin1_aae02 17 = .ok (.iconst 0, 1) := by decide +kernel
theorem dJ0_isLatin1_aae02_18 : decode cJ0_isLatin1_aae02 18 = .ok (.ireturn, 1) := by decide +kernel
set_option maxRecDepth 100000 in
theorem B_J0_isLatin1_aae02_0 {d : Nat} {h : AbH} {K : Option AbV → AbH → Prop} {x0 : Nat} (hh : wpSC h (some x0) (fun n1 => ((n1 ≠ 0 → K (some (vI 0)) h) ∧ (¬ (n1 ≠ 0) → K (some (vI 1)) h)))) : Vx (d + 1) m_J0_isLatin1_aae02 0 0 0 [some (vR (some x0))] [] h K := by
  refine rr_getsC dJ0_isLatin1_aae02_0 rfl q_262 ?_
  refine rr_if_eq (tgt := 17) dJ0_isLatin1_aae02_3 rfl (by decide) (fun hc => absurd hc (by decide)) (fun _ => ?_)
  refine rr_aload_n dJ0_isLatin1_aae02_6 rfl rfl ?_
  refine rr_strC dJ0_isLatin1_aae02_7 rfl q_1152 hh (fun n1 hh => ?_)
  refine rr_if_ne (tgt := 17) dJ0_isLatin1_aae02_10 rfl (by decide) (fun hc10 => ?_) (fun hc10 => ?_)
  · have hh := hh.1 hc10
    refine rr_iconst dJ0_isLatin1_aae02_17 rfl ⟨by decide, by decide⟩ ?_
    exact rr_zret dJ0_isLatin1_aae02_18 rfl rfl hh
  · have hh := hh.2 hc10
    refine rr_iconst dJ0_isLatin1_aae02_13 rfl ⟨by decide, by decide⟩ ?_
    refine rr_goto (pc' := 18) dJ0_isLatin1_aae02_14 (by decide) ?_
    exact rr_zret dJ0_isLatin1_aae02_18 rfl rfl hh
theorem dJ0_checkIndex_df160_0 : decode cJ0_checkIndex_df160 0 = .ok (.iload_n 0, 1) := by decide +kernel
theorem dJ0_checkIndex_df160_1 : decode cJ0_checkIndex_df160 1 = .ok (.iload_n 1, 1) := by decide +kernel
theorem dJ0_checkIndex_df160_2 : decode cJ0_checkIndex_df160 2 = .ok (.getstatic 1053, 3) := by decide +kernel
theorem dJ0_checkIndex_df160_5 : decode cJ0_checkIndex_df160 5 = .ok (.invokestatic 1059, 3) := by decide +kernel
theorem dJ0_checkIndex_df160_8 : decode cJ0_checkIndex_df160 8 = .ok (.pop, 1) := by decide +kernel
theorem dJ0_checkIndex_df160_9 : decode cJ0_checkIndex_df160 9 = .ok (.return_, 1) := by decide +kernel
set_option maxRecDepth 100000 in
theorem B_J0_checkIndex_df160_0 {d : Nat} {h : AbH} {K : Option AbV → AbH → Prop} {x0 : Int} {x1 : Int} (hh : ∀ r1 : Option Nat, Vm d m_J3_checkIndex_8e157 [vI x0, vI x1, vR r1] h (kI (fun n3 h2 => K none h2))) : Vx (d + 1) m_J0_checkIndex_df160 0 0 0 [some (vI x0), some (vI x1)] [] h K := by
  refine rr_iload_n dJ0_checkIndex_df160_0 rfl rfl ?_
  refine rr_iload_n dJ0_checkIndex_df160_1 rfl rfl ?_
  refine rr_getsF dJ0_checkIndex_df160_2 rfl q_278 (fun r1 => ?_)
  have hh := hh r1
  refine rr_callS (bc' := 0) (bs' := 0) (av := [vI x0, vI x1, vR r1]) (st := []) mf_J3_checkIndex_8e157 dJ0_checkIndex_df160_5 rfl q_280 q_281 rfl (by decide) (Nat.le_refl _) (Nat.le_refl _) hh (rr_kI fun n3 h2 hh => ?_)
  refine rr_pop dJ0_checkIndex_df160_8 rfl rfl ?_
  exact rr_vret dJ0_checkIndex_df160_9 rfl hh
theorem dJ1_charAt_3b067_0 : decode cJ1_charAt_3b067 0 = .ok (.iload_n 1, 1) := by decide +kernel
theorem dJ1_charAt_3b067_1 : decode cJ1_charAt_3b067 1 = .ok (.aload_n 0, 1) := by decide +kernel
theorem dJ1_charAt_3b067_2 : decode cJ1_charAt_3b067 2 = .ok (.arraylength, 1) := by decide +kernel
theorem dJ1_charAt_3b067_3 : decode cJ1_charAt_3b067 3 = .ok (.invokestatic 9, 3) := by decide +kernel
theorem dJ1_charAt_3b067_6 : decode cJ1_charAt_3b067 6 = .ok (.aload_n 0, 1) := by decide +kernel
theorem dJ1_charAt_3b067_7 : decode cJ1_charAt_3b067 7 = .ok (.iload_n 1, 1) := by decide +kernel
theorem dJ1_charAt_3b067_8 : decode cJ1_charAt_3b067 8 = .ok (.baload, 1) := by decide +kernel
theorem dJ1_charAt_3b067_9 : decode cJ1_charAt_3b067 9 = .ok (.sipush 255, 3) := by decide +kernel
theorem dJ1_charAt_3b067_12 : decode cJ1_charAt_3b067 12 = .ok (.iand, 1) := by decide +kernel
theorem dJ1_charAt_3b067_13 : decode cJ1_charAt_3b067 13 = .ok (.i2c, 1) := by decide +kernel
theorem dJ1_charAt_3b067_14 : decode cJ1_charAt_3b067 14 = .ok (.ireturn, 1) := by decide +kernel
set_option maxRecDepth 100000 in
theorem B_J1_charAt_3b067_0 {d : Nat} {h : AbH} {K : Option AbV → AbH → Prop} {x0 : Option Nat} {x1 : Int} (hh : wpNB h x0 (fun n1 => Vm d m_J0_checkIndex_df160 [vI x1, vI n1] h (kV (fun h2 => wpLB h2 x0 x1 (fun n3 => (0 ≤ n3 ∧ (0 : Int) ≤ 255) ∧ (0 ≤ ((n3.toNat &&& (255 : Int).toNat : Nat) : Int) ∧ ((n3.toNat &&& (255 : Int).toNat : Nat) : Int) < 65536) ∧ (0 ≤ ((n3.toNat &&& (255 : Int).toNat : Nat) : Int) ∧ ((n3.toNat &&& (255 : Int).toNat : Nat) : Int) < 65536) ∧ K (some (vI ((n3.toNat &&& (255 : Int).toNat : Nat) : Int))) h2))))) : Vx (d + 1) m_J1_charAt_3b067 0 0 0 [some (vR x0), some (vI x1)] [] h K := by
  refine rr_iload_n dJ1_charAt_3b067_0 rfl rfl ?_
  refine rr_aload_n dJ1_charAt_3b067_1 rfl rfl ?_
  refine rr_alenB dJ1_charAt_3b067_2 rfl hh (fun n1 hh => ?_)
  refine rr_callS (bc' := 0) (bs' := 0) (av := [vI x1, vI n1]) (st := []) mf_J0_checkIndex_df160 dJ1_charAt_3b067_3 rfl q_275 q_276 rfl (by decide) (Nat.le_refl _) (Nat.le_refl _) hh (rr_kV fun h2 hh => ?_)
  refine rr_aload_n dJ1_charAt_3b067_6 rfl rfl ?_
  refine rr_iload_n dJ1_charAt_3b067_7 rfl rfl ?_
  refine rr_bald dJ1_charAt_3b067_8 rfl hh (fun n3 hh => ?_)
  refine rr_sipush dJ1_charAt_3b067_9 rfl ⟨by decide, by decide⟩ rfl ?_
  obtain ⟨hz4, hh⟩ := hh
  refine rr_iandN dJ1_charAt_3b067_12 rfl hz4 ?_
  obtain ⟨hz5, hh⟩ := hh
  refine rr_i2c dJ1_charAt_3b067_13 rfl hz5 ?_
  obtain ⟨hz6, hh⟩ := hh
  exact rr_zret dJ1_charAt_3b067_14 rfl (zn_c hz6) hh
theorem dJ3_checkIndex_8e157_0 : decode cJ3_checkIndex_8e157 0 = .ok (.iload_n 0, 1) := by decide +kernel
theorem dJ3_checkIndex_8e157_1 : decode cJ3_checkIndex_8e157 1 = .ok (.ifCond .lt 8, 3) := by decide +kernel
theorem dJ3_checkIndex_8e157_4 : decode cJ3_checkIndex_8e157 4 = .ok (.iload_n 0, 1) := by decide +kernel
theorem dJ3_checkIndex_8e157_5 : decode cJ3_checkIndex_8e157 5 = .ok (.iload_n 1, 1) := by decide +kernel
theorem dJ3_checkIndex_8e157_6 : decode cJ3_checkIndex_8e157 6 = .ok (.if_icmp .lt 10, 3) := by decide +kernel
theorem dJ3_checkIndex_8e157_9 : decode cJ3_checkIndex_8e157 9 = .ok (.aload_n 2, 1) := by decide +kernel
theorem dJ3_checkIndex_8e157_10 : decode cJ3_checkIndex_8e157 10 = .ok (.iload_n 0, 1) := by decide +kernel
theorem dJ3_checkIndex_8e157_11 : decode cJ3_checkIndex_8e157 11 = .ok (.iload_n 1, 1) := by decide +kernel
theorem dJ3_checkIndex_8e157_12 : decode cJ3_checkIndex_8e157 12 = .ok (.invokestatic 95, 3) := by decide +kernel
theorem dJ3_checkIndex_8e157_15 : decode cJ3_checkIndex_8e157 15 = .ok (.athrow, 1) := by decide +kernel
theorem dJ3_checkIndex_8e157_16 : decode cJ3_checkIndex_8e157 16 = .ok (.iload_n 0, 1) := by decide +kernel
theorem dJ3_checkIndex_8e157_17 : decode cJ3_checkIndex_8e157 17 = .ok (.ireturn, 1) := by decide +kernel
set_option maxRecDepth 100000 in
theorem B_J3_checkIndex_8e157_0 {d : Nat} {h : AbH} {K : Option AbV → AbH → Prop} {x0 : Int} {x1 : Int} {x2 : Option Nat} (hh : ((x0 < 0 → False) ∧ (¬ (x0 < 0) → ((x0 < x1 → K (some (vI x0)) h) ∧ (¬ (x0 < x1) → False))))) : Vx (d + 1) m_J3_checkIndex_8e157 0 0 0 [some (vI x0), some (vI x1), some (vR x2)] [] h K := by
  refine rr_iload_n dJ3_checkIndex_8e157_0 rfl rfl ?_
  refine rr_if_lt (tgt := 9) dJ3_checkIndex_8e157_1 rfl (by decide) (fun hc1 => ?_) (fun hc1 => ?_)
  · have hh := hh.1 hc1
    refine rr_aload_n dJ3_checkIndex_8e157_9 rfl rfl ?_
    refine rr_iload_n dJ3_checkIndex_8e157_10 rfl rfl ?_
    refine rr_iload_n dJ3_checkIndex_8e157_11 rfl rfl ?_
    exact hh.elim
  · have hh := hh.2 hc1
    refine rr_iload_n dJ3_checkIndex_8e157_4 rfl rfl ?_
    refine rr_iload_n dJ3_checkIndex_8e157_5 rfl rfl ?_
    refine rr_icmp_lt (tgt := 16) dJ3_checkIndex_8e157_6 rfl (by decide) (fun hc6 => ?_) (fun hc6 => ?_)
    · have hh := hh.1 hc6
      refine rr_iload_n dJ3_checkIndex_8e157_16 rfl rfl ?_
      exact rr_iret dJ3_checkIndex_8e157_17 rfl hh
    · have hh := hh.2 hc6
      refine rr_aload_n dJ3_checkIndex_8e157_9 rfl rfl ?_
      refine rr_iload_n dJ3_checkIndex_8e157_10 rfl rfl ?_
      refine rr_iload_n dJ3_checkIndex_8e157_11 rfl rfl ?_
      exact hh.elim
