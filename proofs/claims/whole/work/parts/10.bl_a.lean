theorem dX9_within_0 : decode cX9_within 0 = .ok (.iload_n 1, 1) := by decide +kernel
theorem dX9_within_1 : decode cX9_within 1 = .ok (.iload_n 0, 1) := by decide +kernel
theorem dX9_within_2 : decode cX9_within 2 = .ok (.if_icmp .gt 12, 3) := by decide +kernel
theorem dX9_within_5 : decode cX9_within 5 = .ok (.iload_n 0, 1) := by decide +kernel
theorem dX9_within_6 : decode cX9_within 6 = .ok (.iload_n 2, 1) := by decide +kernel
theorem dX9_within_7 : decode cX9_within 7 = .ok (.if_icmp .gt 7, 3) := by decide +kernel
theorem dX9_within_10 : decode cX9_within 10 = .ok (.iconst 1, 1) := by decide +kernel
theorem dX9_within_11 : decode cX9_within 11 = .ok (.goto 4, 3) := by decide +kernel
theorem dX9_within_14 : decode cX9_within 14 = .ok (.iconst 0, 1) := by decide +kernel
theorem dX9_within_15 : decode cX9_within 15 = .ok (.ireturn, 1) := by decide +kernel
set_option maxRecDepth 100000 in
theorem B_X9_within_0 {d : Nat} {h : AbH} {K : Option AbV → AbH → Prop} {x0 : Int} {x1 : Int} {x2 : Int} (hh : ((x0 < x1 → K (some (vI 0)) h) ∧ (¬ (x0 < x1) → ((x2 < x0 → K (some (vI 0)) h) ∧ (¬ (x2 < x0) → K (some (vI 1)) h))))) : Vx (d + 1) m_X9_within 0 0 0 [some (vI x0), some (vI x1), some (vI x2)] [] h K := by
  refine rr_iload_n dX9_within_0 rfl rfl ?_
  refine rr_iload_n dX9_within_1 rfl rfl ?_
  refine rr_icmp_gt (tgt := 14) dX9_within_2 rfl (by decide) (fun hc2 => ?_) (fun hc2 => ?_)
  · have hh := hh.1 hc2
    refine rr_iconst dX9_within_14 rfl ⟨by decide, by decide⟩ ?_
    exact rr_zret dX9_within_15 rfl rfl hh
  · have hh := hh.2 hc2
    refine rr_iload_n dX9_within_5 rfl rfl ?_
    refine rr_iload_n dX9_within_6 rfl rfl ?_
    refine rr_icmp_gt (tgt := 14) dX9_within_7 rfl (by decide) (fun hc7 => ?_) (fun hc7 => ?_)
    · have hh := hh.1 hc7
      refine rr_iconst dX9_within_14 rfl ⟨by decide, by decide⟩ ?_
      exact rr_zret dX9_within_15 rfl rfl hh
    · have hh := hh.2 hc7
      refine rr_iconst dX9_within_10 rfl ⟨by decide, by decide⟩ ?_
      refine rr_goto (pc' := 15) dX9_within_11 (by decide) ?_
      exact rr_zret dX9_within_15 rfl rfl hh
theorem dX9_isTongue_0 : decode cX9_isTongue 0 = .ok (.iconst 0, 1) := by decide +kernel
theorem dX9_isTongue_1 : decode cX9_isTongue 1 = .ok (.iload_n 0, 1) := by decide +kernel
theorem dX9_isTongue_2 : decode cX9_isTongue 2 = .ok (.if_icmp .gt 12, 3) := by decide +kernel
theorem dX9_isTongue_5 : decode cX9_isTongue 5 = .ok (.iload_n 0, 1) := by decide +kernel
theorem dX9_isTongue_6 : decode cX9_isTongue 6 = .ok (.iconst 4, 1) := by decide +kernel
theorem dX9_isTongue_7 : decode cX9_isTongue 7 = .ok (.if_icmp .ge 7, 3) := by decide +kernel
theorem dX9_isTongue_10 : decode cX9_isTongue 10 = .ok (.iconst 1, 1) := by decide +kernel
theorem dX9_isTongue_11 : decode cX9_isTongue 11 = .ok (.goto 4, 3) := by decide +kernel
theorem dX9_isTongue_14 : decode cX9_isTongue 14 = .ok (.iconst 0, 1) := by decide +kernel
theorem dX9_isTongue_15 : decode cX9_isTongue 15 = .ok (.ireturn, 1) := by decide +kernel
set_option maxRecDepth 100000 in
theorem B_X9_isTongue_0 {d : Nat} {h : AbH} {K : Option AbV → AbH → Prop} {x0 : Int} (hh : ((x0 < 0 → K (some (vI 0)) h) ∧ (¬ (x0 < 0) → ((4 ≤ x0 → K (some (vI 0)) h) ∧ (¬ (4 ≤ x0) → K (some (vI 1)) h))))) : Vx (d + 1) m_X9_isTongue 0 0 0 [some (vI x0)] [] h K := by
  refine rr_iconst dX9_isTongue_0 rfl ⟨by decide, by decide⟩ ?_
  refine rr_iload_n dX9_isTongue_1 rfl rfl ?_
  refine rr_icmp_gt (tgt := 14) dX9_isTongue_2 rfl (by decide) (fun hc2 => ?_) (fun hc2 => ?_)
  · have hh := hh.1 hc2
    refine rr_iconst dX9_isTongue_14 rfl ⟨by decide, by decide⟩ ?_
    exact rr_zret dX9_isTongue_15 rfl rfl hh
  · have hh := hh.2 hc2
    refine rr_iload_n dX9_isTongue_5 rfl rfl ?_
    refine rr_iconst dX9_isTongue_6 rfl ⟨by decide, by decide⟩ ?_
    refine rr_icmp_ge (tgt := 14) dX9_isTongue_7 rfl (by decide) (fun hc7 => ?_) (fun hc7 => ?_)
    · have hh := hh.1 hc7
      refine rr_iconst dX9_isTongue_14 rfl ⟨by decide, by decide⟩ ?_
      exact rr_zret dX9_isTongue_15 rfl rfl hh
    · have hh := hh.2 hc7
      refine rr_iconst dX9_isTongue_10 rfl ⟨by decide, by decide⟩ ?_
      refine rr_goto (pc' := 15) dX9_isTongue_11 (by decide) ?_
      exact rr_zret dX9_isTongue_15 rfl rfl hh
theorem dX9_isDate_0 : decode cX9_isDate 0 = .ok (.iload_n 0, 1) := by decide +kernel
theorem dX9_isDate_1 : decode cX9_isDate 1 = .ok (.iconst 0, 1) := by decide +kernel
theorem dX9_isDate_2 : decode cX9_isDate 2 = .ok (.bipush 99, 2) := by decide +kernel
theorem dX9_isDate_4 : decode cX9_isDate 4 = .ok (.invokestatic 55, 3) := by decide +kernel
theorem dX9_isDate_7 : decode cX9_isDate 7 = .ok (.ireturn, 1) := by decide +kernel
set_option maxRecDepth 100000 in
theorem B_X9_isDate_0 {d : Nat} {h : AbH} {K : Option AbV → AbH → Prop} {x0 : Int} (hh : Vm d m_X9_within [vI x0, vI 0, vI 99] h (kI (fun n2 h1 => ab_z01 n2 ∧ K (some (vI n2)) h1))) : Vx (d + 1) m_X9_isDate 0 0 0 [some (vI x0)] [] h K := by
  refine rr_iload_n dX9_isDate_0 rfl rfl ?_
  refine rr_iconst dX9_isDate_1 rfl ⟨by decide, by decide⟩ ?_
  refine rr_bipush dX9_isDate_2 rfl ⟨by decide, by decide⟩ rfl ?_
  refine rr_callS (bc' := 0) (bs' := 0) (av := [vI x0, vI 0, vI 99]) (st := []) mf_X9_within dX9_isDate_4 rfl q_196 q_197 rfl (by decide) (Nat.le_refl _) (Nat.le_refl _) hh (rr_kI fun n2 h1 hh => ?_)
  obtain ⟨hz3, hh⟩ := hh
  exact rr_zret dX9_isDate_7 rfl (zn_b hz3) hh
theorem dX9_isSound_0 : decode cX9_isSound 0 = .ok (.iload_n 0, 1) := by decide +kernel
theorem dX9_isSound_1 : decode cX9_isSound 1 = .ok (.iconst 0, 1) := by decide +kernel
theorem dX9_isSound_2 : decode cX9_isSound 2 = .ok (.bipush 25, 2) := by decide +kernel
theorem dX9_isSound_4 : decode cX9_isSound 4 = .ok (.invokestatic 55, 3) := by decide +kernel
theorem dX9_isSound_7 : decode cX9_isSound 7 = .ok (.ireturn, 1) := by decide +kernel
set_option maxRecDepth 100000 in
theorem B_X9_isSound_0 {d : Nat} {h : AbH} {K : Option AbV → AbH → Prop} {x0 : Int} (hh : Vm d m_X9_within [vI x0, vI 0, vI 25] h (kI (fun n2 h1 => ab_z01 n2 ∧ K (some (vI n2)) h1))) : Vx (d + 1) m_X9_isSound 0 0 0 [some (vI x0)] [] h K := by
  refine rr_iload_n dX9_isSound_0 rfl rfl ?_
  refine rr_iconst dX9_isSound_1 rfl ⟨by decide, by decide⟩ ?_
  refine rr_bipush dX9_isSound_2 rfl ⟨by decide, by decide⟩ rfl ?_
  refine rr_callS (bc' := 0) (bs' := 0) (av := [vI x0, vI 0, vI 25]) (st := []) mf_X9_within dX9_isSound_4 rfl q_196 q_197 rfl (by decide) (Nat.le_refl _) (Nat.le_refl _) hh (rr_kI fun n2 h1 hh => ?_)
  obtain ⟨hz3, hh⟩ := hh
  exact rr_zret dX9_isSound_7 rfl (zn_b hz3) hh
theorem dX9_pairOf_0 : decode cX9_pairOf 0 = .ok (.iload_n 0, 1) := by decide +kernel
theorem dX9_pairOf_1 : decode cX9_pairOf 1 = .ok (.invokestatic 82, 3) := by decide +kernel
theorem dX9_pairOf_4 : decode cX9_pairOf 4 = .ok (.ifCond .eq 23, 3) := by decide +kernel
theorem dX9_pairOf_7 : decode cX9_pairOf 7 = .ok (.iload_n 1, 1) := by decide +kernel
theorem dX9_pairOf_8 : decode cX9_pairOf 8 = .ok (.invokestatic 82, 3) := by decide +kernel
theorem dX9_pairOf_11 : decode cX9_pairOf 11 = .ok (.ifCond .eq 16, 3) := by decide +kernel
theorem dX9_pairOf_14 : decode cX9_pairOf 14 = .ok (.iload_n 0, 1) := by decide +kernel
theorem dX9_pairOf_15 : decode cX9_pairOf 15 = .ok (.iload_n 1, 1) := by decide +kernel
theorem dX9_pairOf_16 : decode cX9_pairOf 16 = .ok (.if_icmp .eq 11, 3) := by decide +kernel
theorem dX9_pairOf_19 : decode cX9_pairOf 19 = .ok (.iload_n 0, 1) := by decide +kernel
theorem dX9_pairOf_20 : decode cX9_pairOf 20 = .ok (.iconst 4, 1) := by decide +kernel
theorem dX9_pairOf_21 : decode cX9_pairOf 21 = .ok (.imul, 1) := by decide +kernel
theorem dX9_pairOf_22 : decode cX9_pairOf 22 = .ok (.iload_n 1, 1) := by decide +kernel
theorem dX9_pairOf_23 : decode cX9_pairOf 23 = .ok (.iadd, 1) := by decide +kernel
theorem dX9_pairOf_24 : decode cX9_pairOf 24 = .ok (.goto 4, 3) := by decide +kernel
theorem dX9_pairOf_27 : decode cX9_pairOf 27 = .ok (.iconst (-1), 1) := by decide +kernel
theorem dX9_pairOf_28 : decode cX9_pairOf 28 = .ok (.ireturn, 1) := by decide +kernel
set_option maxRecDepth 100000 in
theorem B_X9_pairOf_0 {d : Nat} {h : AbH} {K : Option AbV → AbH → Prop} {x0 : Int} {x1 : Int} (hh : Vm d m_X9_isTongue [vI x0] h (kI (fun n2 h1 => ((n2 = 0 → K (some (vI (-1))) h1) ∧ (¬ (n2 = 0) → Vm d m_X9_isTongue [vI x1] h1 (kI (fun n4 h3 => ((n4 = 0 → K (some (vI (-1))) h3) ∧ (¬ (n4 = 0) → ((x0 = x1 → K (some (vI (-1))) h3) ∧ (¬ (x0 = x1) → in32 (x0 * 4) ∧ in32 ((x0 * 4) + x1) ∧ K (some (vI ((x0 * 4) + x1))) h3))))))))))) : Vx (d + 1) m_X9_pairOf 0 0 0 [some (vI x0), some (vI x1)] [] h K := by
  refine rr_iload_n dX9_pairOf_0 rfl rfl ?_
  refine rr_callS (bc' := 0) (bs' := 0) (av := [vI x0]) (st := []) mf_X9_isTongue dX9_pairOf_1 rfl q_383 q_384 rfl (by decide) (Nat.le_refl _) (Nat.le_refl _) hh (rr_kI fun n2 h1 hh => ?_)
  refine rr_if_eq (tgt := 27) dX9_pairOf_4 rfl (by decide) (fun hc4 => ?_) (fun hc4 => ?_)
  · have hh := hh.1 hc4
    refine rr_iconst dX9_pairOf_27 rfl ⟨by decide, by decide⟩ ?_
    exact rr_iret dX9_pairOf_28 rfl hh
  · have hh := hh.2 hc4
    refine rr_iload_n dX9_pairOf_7 rfl rfl ?_
    refine rr_callS (bc' := 0) (bs' := 0) (av := [vI x1]) (st := []) mf_X9_isTongue dX9_pairOf_8 rfl q_383 q_384 rfl (by decide) (Nat.le_refl _) (Nat.le_refl _) hh (rr_kI fun n4 h3 hh => ?_)
    refine rr_if_eq (tgt := 27) dX9_pairOf_11 rfl (by decide) (fun hc11 => ?_) (fun hc11 => ?_)
    · have hh := hh.1 hc11
      refine rr_iconst dX9_pairOf_27 rfl ⟨by decide, by decide⟩ ?_
      exact rr_iret dX9_pairOf_28 rfl hh
    · have hh := hh.2 hc11
      refine rr_iload_n dX9_pairOf_14 rfl rfl ?_
      refine rr_iload_n dX9_pairOf_15 rfl rfl ?_
      refine rr_icmp_eq (tgt := 27) dX9_pairOf_16 rfl (by decide) (fun hc16 => ?_) (fun hc16 => ?_)
      · have hh := hh.1 hc16
        refine rr_iconst dX9_pairOf_27 rfl ⟨by decide, by decide⟩ ?_
        exact rr_iret dX9_pairOf_28 rfl hh
      · have hh := hh.2 hc16
        refine rr_iload_n dX9_pairOf_19 rfl rfl ?_
        refine rr_iconst dX9_pairOf_20 rfl ⟨by decide, by decide⟩ ?_
        obtain ⟨hz5, hh⟩ := hh
        refine rr_imul dX9_pairOf_21 rfl hz5 ?_
        refine rr_iload_n dX9_pairOf_22 rfl rfl ?_
        obtain ⟨hz6, hh⟩ := hh
        refine rr_iadd dX9_pairOf_23 rfl hz6 ?_
        refine rr_goto (pc' := 28) dX9_pairOf_24 (by decide) ?_
        exact rr_iret dX9_pairOf_28 rfl hh
theorem dX9_soundOrNumber_0 : decode cX9_soundOrNumber 0 = .ok (.iload_n 2, 1) := by decide +kernel
theorem dX9_soundOrNumber_1 : decode cX9_soundOrNumber 1 = .ok (.iconst (-1), 1) := by decide +kernel
theorem dX9_soundOrNumber_2 : decode cX9_soundOrNumber 2 = .ok (.if_icmp .ne 8, 3) := by decide +kernel
theorem dX9_soundOrNumber_5 : decode cX9_soundOrNumber 5 = .ok (.lload_n 0, 1) := by decide +kernel
theorem dX9_soundOrNumber_6 : decode cX9_soundOrNumber 6 = .ok (.invokestatic 201, 3) := by decide +kernel
theorem dX9_soundOrNumber_9 : decode cX9_soundOrNumber 9 = .ok (.ireturn, 1) := by decide +kernel
theorem dX9_soundOrNumber_10 : decode cX9_soundOrNumber 10 = .ok (.lload_n 0, 1) := by decide +kernel
theorem dX9_soundOrNumber_11 : decode cX9_soundOrNumber 11 = .ok (.iload_n 2, 1) := by decide +kernel
theorem dX9_soundOrNumber_12 : decode cX9_soundOrNumber 12 = .ok (.invokestatic 233, 3) := by decide +kernel
theorem dX9_soundOrNumber_15 : decode cX9_soundOrNumber 15 = .ok (.istore_n 3, 1) := by decide +kernel
theorem dX9_soundOrNumber_16 : decode cX9_soundOrNumber 16 = .ok (.iload_n 3, 1) := by decide +kernel
theorem dX9_soundOrNumber_17 : decode cX9_soundOrNumber 17 = .ok (.iconst (-1), 1) := by decide +kernel
theorem dX9_soundOrNumber_18 : decode cX9_soundOrNumber 18 = .ok (.if_icmp .ne 8, 3) := by decide +kernel
theorem dX9_soundOrNumber_21 : decode cX9_soundOrNumber 21 = .ok (.bipush (-2), 2) := by decide +kernel
theorem dX9_soundOrNumber_23 : decode cX9_soundOrNumber 23 = .ok (.goto 4, 3) := by decide +kernel
theorem dX9_soundOrNumber_26 : decode cX9_soundOrNumber 26 = .ok (.iload_n 3, 1) := by decide +kernel
theorem dX9_soundOrNumber_27 : decode cX9_soundOrNumber 27 = .ok (.ireturn, 1) := by decide +kernel
set_option maxRecDepth 100000 in
theorem B_X9_soundOrNumber_0 {d : Nat} {h : AbH} {K : Option AbV → AbH → Prop} {x0 : Int} {x2 : Int} (hh : ((x2 ≠ (-1) → Vm d m_X0_soundAt [vL x0, vI x2] h (kI (fun n2 h1 => ((n2 ≠ (-1) → K (some (vI n2)) h1) ∧ (¬ (n2 ≠ (-1)) → K (some (vI (-2))) h1))))) ∧ (¬ (x2 ≠ (-1)) → Vm d m_X0_length [vL x0] h (kI (fun n4 h3 => K (some (vI n4)) h3))))) : Vx (d + 1) m_X9_soundOrNumber 0 0 0 [some (vL x0), none, some (vI x2)] [] h K := by
  refine Vx.pad 1 [some (vL x0), none, some (vI x2), none] rfl ?_
  refine rr_iload_n dX9_soundOrNumber_0 rfl rfl ?_
  refine rr_iconst dX9_soundOrNumber_1 rfl ⟨by decide, by decide⟩ ?_
  refine rr_icmp_ne (tgt := 10) dX9_soundOrNumber_2 rfl (by decide) (fun hc2 => ?_) (fun hc2 => ?_)
  · have hh := hh.1 hc2
    refine rr_lload_n dX9_soundOrNumber_10 rfl rfl ?_
    refine rr_iload_n dX9_soundOrNumber_11 rfl rfl ?_
    refine rr_callS (bc' := 0) (bs' := 0) (av := [vL x0, vI x2]) (st := []) mf_X0_soundAt dX9_soundOrNumber_12 rfl q_647 q_520 rfl (by decide) (Nat.le_refl _) (Nat.le_refl _) hh (rr_kI fun n2 h1 hh => ?_)
    refine rr_istore_n (ls' := [some (vL x0), none, some (vI x2), some (vI n2)]) dX9_soundOrNumber_15 rfl (by decide) (fun _ z => by cases z) rfl ?_
    refine rr_iload_n dX9_soundOrNumber_16 rfl rfl ?_
    refine rr_iconst dX9_soundOrNumber_17 rfl ⟨by decide, by decide⟩ ?_
    refine rr_icmp_ne (tgt := 26) dX9_soundOrNumber_18 rfl (by decide) (fun hc18 => ?_) (fun hc18 => ?_)
    · have hh := hh.1 hc18
      refine rr_iload_n dX9_soundOrNumber_26 rfl rfl ?_
      exact rr_iret dX9_soundOrNumber_27 rfl hh
    · have hh := hh.2 hc18
      refine rr_bipush dX9_soundOrNumber_21 rfl ⟨by decide, by decide⟩ rfl ?_
      refine rr_goto (pc' := 27) dX9_soundOrNumber_23 (by decide) ?_
      exact rr_iret dX9_soundOrNumber_27 rfl hh
  · have hh := hh.2 hc2
    refine rr_lload_n dX9_soundOrNumber_5 rfl rfl ?_
    refine rr_callS (bc' := 0) (bs' := 0) (av := [vL x0]) (st := []) mf_X0_length dX9_soundOrNumber_6 rfl q_572 q_573 rfl (by decide) (Nat.le_refl _) (Nat.le_refl _) hh (rr_kI fun n4 h3 hh => ?_)
    exact rr_iret dX9_soundOrNumber_9 rfl hh
theorem dX0_soundAt_0 : decode cX0_soundAt 0 = .ok (.iload_n 2, 1) := by decide +kernel
theorem dX0_soundAt_1 : decode cX0_soundAt 1 = .ok (.ifCond .lt 9, 3) := by decide +kernel
theorem dX0_soundAt_4 : decode cX0_soundAt 4 = .ok (.iload_n 2, 1) := by decide +kernel
theorem dX0_soundAt_5 : decode cX0_soundAt 5 = .ok (.bipush 10, 2) := by decide +kernel
theorem dX0_soundAt_7 : decode cX0_soundAt 7 = .ok (.if_icmp .lt 5, 3) := by decide +kernel
theorem dX0_soundAt_10 : decode cX0_soundAt 10 = .ok (.iconst (-1), 1) := by decide +kernel
theorem dX0_soundAt_11 : decode cX0_soundAt 11 = .ok (.ireturn, 1) := by decide +kernel
theorem dX0_soundAt_12 : decode cX0_soundAt 12 = .ok (.lload_n 0, 1) := by decide +kernel
theorem dX0_soundAt_13 : decode cX0_soundAt 13 = .ok (.iconst 5, 1) := by decide +kernel
theorem dX0_soundAt_14 : decode cX0_soundAt 14 = .ok (.iload_n 2, 1) := by decide +kernel
theorem dX0_soundAt_15 : decode cX0_soundAt 15 = .ok (.imul, 1) := by decide +kernel
theorem dX0_soundAt_16 : decode cX0_soundAt 16 = .ok (.lushr, 1) := by decide +kernel
theorem dX0_soundAt_17 : decode cX0_soundAt 17 = .ok (.ldc2_w 11, 3) := by decide +kernel
theorem dX0_soundAt_20 : decode cX0_soundAt 20 = .ok (.land, 1) := by decide +kernel
theorem dX0_soundAt_21 : decode cX0_soundAt 21 = .ok (.l2i, 1) := by decide +kernel
theorem dX0_soundAt_22 : decode cX0_soundAt 22 = .ok (.iconst 1, 1) := by decide +kernel
theorem dX0_soundAt_23 : decode cX0_soundAt 23 = .ok (.isub, 1) := by decide +kernel
theorem dX0_soundAt_24 : decode cX0_soundAt 24 = .ok (.ireturn, 1) := by decide +kernel
set_option maxRecDepth 100000 in
theorem B_X0_soundAt_0 {d : Nat} {h : AbH} {K : Option AbV → AbH → Prop} {x0 : Int} {x2 : Int} (hh : ((x2 < 0 → K (some (vI (-1))) h) ∧ (¬ (x2 < 0) → ((x2 < 10 → in32 (5 * x2) ∧ (0 ≤ x0 ∧ 0 ≤ (5 * x2) ∧ (5 * x2) < 64) ∧ (0 ≤ (x0 / 2 ^ ((5 * x2)).toNat) ∧ (0 : Int) ≤ 31) ∧ in32 ((((x0 / 2 ^ ((5 * x2)).toNat) : Int).toNat &&& (31 : Int).toNat : Nat) : Int) ∧ in32 (((((x0 / 2 ^ ((5 * x2)).toNat) : Int).toNat &&& (31 : Int).toNat : Nat) : Int) - 1) ∧ K (some (vI (((((x0 / 2 ^ ((5 * x2)).toNat) : Int).toNat &&& (31 : Int).toNat : Nat) : Int) - 1))) h) ∧ (¬ (x2 < 10) → K (some (vI (-1))) h))))) : Vx (d + 1) m_X0_soundAt 0 0 0 [some (vL x0), none, some (vI x2)] [] h K := by
  refine rr_iload_n dX0_soundAt_0 rfl rfl ?_
  refine rr_if_lt (tgt := 10) dX0_soundAt_1 rfl (by decide) (fun hc1 => ?_) (fun hc1 => ?_)
  · have hh := hh.1 hc1
    refine rr_iconst dX0_soundAt_10 rfl ⟨by decide, by decide⟩ ?_
    exact rr_iret dX0_soundAt_11 rfl hh
  · have hh := hh.2 hc1
    refine rr_iload_n dX0_soundAt_4 rfl rfl ?_
    refine rr_bipush dX0_soundAt_5 rfl ⟨by decide, by decide⟩ rfl ?_
    refine rr_icmp_lt (tgt := 12) dX0_soundAt_7 rfl (by decide) (fun hc7 => ?_) (fun hc7 => ?_)
    · have hh := hh.1 hc7
      refine rr_lload_n dX0_soundAt_12 rfl rfl ?_
      refine rr_iconst dX0_soundAt_13 rfl ⟨by decide, by decide⟩ ?_
      refine rr_iload_n dX0_soundAt_14 rfl rfl ?_
      obtain ⟨hz1, hh⟩ := hh
      refine rr_imul dX0_soundAt_15 rfl hz1 ?_
      obtain ⟨hz2, hh⟩ := hh
      refine rr_lushr dX0_soundAt_16 rfl hz2 ?_
      refine rr_ldc2 (n := 31) dX0_soundAt_17 rfl q_522 (by decide) ⟨by decide, by decide⟩ ?_
      obtain ⟨hz3, hh⟩ := hh
      refine rr_land dX0_soundAt_20 rfl hz3 ?_
      obtain ⟨hz4, hh⟩ := hh
      refine rr_l2i dX0_soundAt_21 rfl hz4 ?_
      refine rr_iconst dX0_soundAt_22 rfl ⟨by decide, by decide⟩ ?_
      obtain ⟨hz5, hh⟩ := hh
      refine rr_isub dX0_soundAt_23 rfl hz5 ?_
      exact rr_iret dX0_soundAt_24 rfl hh
    · have hh := hh.2 hc7
      refine rr_iconst dX0_soundAt_10 rfl ⟨by decide, by decide⟩ ?_
      exact rr_iret dX0_soundAt_11 rfl hh
theorem dX0_length_0 : decode cX0_length 0 = .ok (.iconst 0, 1) := by decide +kernel
theorem dX0_length_1 : decode cX0_length 1 = .ok (.istore_n 2, 1) := by decide +kernel
theorem dX0_length_2 : decode cX0_length 2 = .ok (.iload_n 2, 1) := by decide +kernel
theorem dX0_length_3 : decode cX0_length 3 = .ok (.bipush 10, 2) := by decide +kernel
theorem dX0_length_5 : decode cX0_length 5 = .ok (.if_icmp .ge 18, 3) := by decide +kernel
theorem dX0_length_8 : decode cX0_length 8 = .ok (.lload_n 0, 1) := by decide +kernel
theorem dX0_length_9 : decode cX0_length 9 = .ok (.iload_n 2, 1) := by decide +kernel
theorem dX0_length_10 : decode cX0_length 10 = .ok (.invokestatic 13, 3) := by decide +kernel
theorem dX0_length_13 : decode cX0_length 13 = .ok (.iconst (-1), 1) := by decide +kernel
theorem dX0_length_14 : decode cX0_length 14 = .ok (.if_icmp .eq 9, 3) := by decide +kernel
theorem dX0_length_17 : decode cX0_length 17 = .ok (.iinc 2 1, 3) := by decide +kernel
theorem dX0_length_20 : decode cX0_length 20 = .ok (.goto (-18), 3) := by decide +kernel
theorem dX0_length_23 : decode cX0_length 23 = .ok (.iload_n 2, 1) := by decide +kernel
theorem dX0_length_24 : decode cX0_length 24 = .ok (.ireturn, 1) := by decide +kernel
set_option maxRecDepth 100000 in
theorem B_X0_length_0 {d : Nat} {h : AbH} {K : Option AbV → AbH → Prop} {x0 : Int} (hh : Vx (d + 1) m_X0_length 0 0 2 [some (vL x0), none, some (vI 0)] [] h K) : Vx (d + 1) m_X0_length 0 0 0 [some (vL x0), none] [] h K := by
  refine Vx.pad 1 [some (vL x0), none, none] rfl ?_
  refine rr_iconst dX0_length_0 rfl ⟨by decide, by decide⟩ ?_
  refine rr_istore_n (ls' := [some (vL x0), none, some (vI 0)]) dX0_length_1 rfl (by decide) (fun _ z => by cases z) rfl ?_
  exact hh
set_option maxRecDepth 100000 in
theorem B_X0_length_2 {d : Nat} {h : AbH} {K : Option AbV → AbH → Prop} {x0 : Int} {x2 : Int} {bc bs : Nat} (hh : ((10 ≤ x2 → K (some (vI x2)) h) ∧ (¬ (10 ≤ x2) → Vm d m_X0_soundAt [vL x0, vI x2] h (kI (fun n2 h1 => ((n2 = (-1) → K (some (vI x2)) h1) ∧ (¬ (n2 = (-1)) → in32 (x2 + 1) ∧ Vx (d + 1) m_X0_length bc bs 2 [some (vL x0), none, some (vI (x2 + 1))] [] h1 K))))))) : Vx (d + 1) m_X0_length bc bs 2 [some (vL x0), none, some (vI x2)] [] h K := by
  refine rr_iload_n dX0_length_2 rfl rfl ?_
  refine rr_bipush dX0_length_3 rfl ⟨by decide, by decide⟩ rfl ?_
  refine rr_icmp_ge (tgt := 23) dX0_length_5 rfl (by decide) (fun hc5 => ?_) (fun hc5 => ?_)
  · have hh := hh.1 hc5
    refine rr_iload_n dX0_length_23 rfl rfl ?_
    exact rr_iret dX0_length_24 rfl hh
  · have hh := hh.2 hc5
    refine rr_lload_n dX0_length_8 rfl rfl ?_
    refine rr_iload_n dX0_length_9 rfl rfl ?_
    refine rr_callS (bc' := bc) (bs' := bs) (av := [vL x0, vI x2]) (st := []) mf_X0_soundAt dX0_length_10 rfl q_575 q_520 rfl (by decide) (Nat.le_refl _) (Nat.le_refl _) hh (rr_kI fun n2 h1 hh => ?_)
    refine rr_iconst dX0_length_13 rfl ⟨by decide, by decide⟩ ?_
    refine rr_icmp_eq (tgt := 23) dX0_length_14 rfl (by decide) (fun hc14 => ?_) (fun hc14 => ?_)
    · have hh := hh.1 hc14
      refine rr_iload_n dX0_length_23 rfl rfl ?_
      exact rr_iret dX0_length_24 rfl hh
    · have hh := hh.2 hc14
      obtain ⟨hz3, hh⟩ := hh
      refine rr_iinc (ls' := [some (vL x0), none, some (vI (x2 + 1))]) dX0_length_17 rfl rfl (by decide) (fun _ z => by cases z) hz3 rfl ?_
      refine rr_goto (pc' := 2) dX0_length_20 (by decide) ?_
      exact hh
theorem dX0_longer_0 : decode cX0_longer 0 = .ok (.lload_n 0, 1) := by decide +kernel
theorem dX0_longer_1 : decode cX0_longer 1 = .ok (.iload_n 3, 1) := by decide +kernel
theorem dX0_longer_2 : decode cX0_longer 2 = .ok (.iconst 1, 1) := by decide +kernel
theorem dX0_longer_3 : decode cX0_longer 3 = .ok (.iadd, 1) := by decide +kernel
theorem dX0_longer_4 : decode cX0_longer 4 = .ok (.i2l, 1) := by decide +kernel
theorem dX0_longer_5 : decode cX0_longer 5 = .ok (.iconst 5, 1) := by decide +kernel
theorem dX0_longer_6 : decode cX0_longer 6 = .ok (.iload_n 2, 1) := by decide +kernel
theorem dX0_longer_7 : decode cX0_longer 7 = .ok (.imul, 1) := by decide +kernel
theorem dX0_longer_8 : decode cX0_longer 8 = .ok (.lshl, 1) := by decide +kernel
theorem dX0_longer_9 : decode cX0_longer 9 = .ok (.lor, 1) := by decide +kernel
theorem dX0_longer_10 : decode cX0_longer 10 = .ok (.lreturn, 1) := by decide +kernel
set_option maxRecDepth 100000 in
theorem B_X0_longer_0 {d : Nat} {h : AbH} {K : Option AbV → AbH → Prop} {x0 : Int} {x2 : Int} {x3 : Int} (hh : in32 (x3 + 1) ∧ in32 (5 * x2) ∧ (0 ≤ (x3 + 1) ∧ 0 ≤ (5 * x2) ∧ (5 * x2) < 64) ∧ in64 ((x3 + 1) * 2 ^ ((5 * x2)).toNat) ∧ (0 ≤ x0 ∧ (0 : Int) ≤ ((x3 + 1) * 2 ^ ((5 * x2)).toNat)) ∧ K (some (vL (((x0 : Int).toNat ||| (((x3 + 1) * 2 ^ ((5 * x2)).toNat) : Int).toNat : Nat) : Int))) h) : Vx (d + 1) m_X0_longer 0 0 0 [some (vL x0), none, some (vI x2), some (vI x3)] [] h K := by
  refine rr_lload_n dX0_longer_0 rfl rfl ?_
  refine rr_iload_n dX0_longer_1 rfl rfl ?_
  refine rr_iconst dX0_longer_2 rfl ⟨by decide, by decide⟩ ?_
  obtain ⟨hz1, hh⟩ := hh
  refine rr_iadd dX0_longer_3 rfl hz1 ?_
  refine rr_i2l dX0_longer_4 rfl ?_
  refine rr_iconst dX0_longer_5 rfl ⟨by decide, by decide⟩ ?_
  refine rr_iload_n dX0_longer_6 rfl rfl ?_
  obtain ⟨hz2, hh⟩ := hh
  refine rr_imul dX0_longer_7 rfl hz2 ?_
  obtain ⟨hz3, hz4, hh⟩ := hh
  refine rr_lshl dX0_longer_8 rfl hz3 hz4 ?_
  obtain ⟨hz5, hh⟩ := hh
  refine rr_lor dX0_longer_9 rfl hz5 ?_
  exact rr_lret dX0_longer_10 rfl hh
theorem dX1_init_0 : decode cX1_init 0 = .ok (.aload_n 0, 1) := by decide +kernel
theorem dX1_init_1 : decode cX1_init 1 = .ok (.invokespecial 3, 3) := by decide +kernel
theorem dX1_init_4 : decode cX1_init 4 = .ok (.aload_n 0, 1) := by decide +kernel
theorem dX1_init_5 : decode cX1_init 5 = .ok (.iload_n 1, 1) := by decide +kernel
theorem dX1_init_6 : decode cX1_init 6 = .ok (.putfield 9, 3) := by decide +kernel
theorem dX1_init_9 : decode cX1_init 9 = .ok (.aload_n 0, 1) := by decide +kernel
theorem dX1_init_10 : decode cX1_init 10 = .ok (.iload_n 2, 1) := by decide +kernel
theorem dX1_init_11 : decode cX1_init 11 = .ok (.putfield 15, 3) := by decide +kernel
theorem dX1_init_14 : decode cX1_init 14 = .ok (.aload_n 0, 1) := by decide +kernel
theorem dX1_init_15 : decode cX1_init 15 = .ok (.iload_n 3, 1) := by decide +kernel
theorem dX1_init_16 : decode cX1_init 16 = .ok (.putfield 18, 3) := by decide +kernel
theorem dX1_init_19 : decode cX1_init 19 = .ok (.aload_n 0, 1) := by decide +kernel
theorem dX1_init_20 : decode cX1_init 20 = .ok (.iload 4, 2) := by decide +kernel
theorem dX1_init_22 : decode cX1_init 22 = .ok (.putfield 21, 3) := by decide +kernel
theorem dX1_init_25 : decode cX1_init 25 = .ok (.aload_n 0, 1) := by decide +kernel
theorem dX1_init_26 : decode cX1_init 26 = .ok (.iload 5, 2) := by decide +kernel
theorem dX1_init_28 : decode cX1_init 28 = .ok (.putfield 24, 3) := by decide +kernel
theorem dX1_init_31 : decode cX1_init 31 = .ok (.aload_n 0, 1) := by decide +kernel
theorem dX1_init_32 : decode cX1_init 32 = .ok (.iload 5, 2) := by decide +kernel
theorem dX1_init_34 : decode cX1_init 34 = .ok (.ifCond .ne 7, 3) := by decide +kernel
theorem dX1_init_37 : decode cX1_init 37 = .ok (.iconst (-1), 1) := by decide +kernel
theorem dX1_init_38 : decode cX1_init 38 = .ok (.goto 5, 3) := by decide +kernel
theorem dX1_init_41 : decode cX1_init 41 = .ok (.iload 6, 2) := by decide +kernel
theorem dX1_init_43 : decode cX1_init 43 = .ok (.putfield 27, 3) := by decide +kernel
theorem dX1_init_46 : decode cX1_init 46 = .ok (.return_, 1) := by decide +kernel
set_option maxRecDepth 100000 in
theorem B_X1_init_0 {d : Nat} {h : AbH} {K : Option AbV → AbH → Prop} {x0 : Nat} {x1 : Int} {x2 : Int} {x3 : Int} {x4 : Int} {x5 : Int} {x6 : Int} (hh : wpP h (some x0) 0 0 (vI x1) (fun h1 => wpP h1 (some x0) 0 1 (vI x2) (fun h2 => wpP h2 (some x0) 0 2 (vI x3) (fun h3 => wpP h3 (some x0) 0 3 (vI x4) (fun h4 => wpP h4 (some x0) 0 4 (vI x5) (fun h5 => ((x5 ≠ 0 → wpP h5 (some x0) 0 5 (vI x6) (fun h6 => K none h6)) ∧ (¬ (x5 ≠ 0) → wpP h5 (some x0) 0 5 (vI (-1)) (fun h7 => K none h7))))))))) : Vx (d + 1) m_X1_init 0 0 0 [some (vR (some x0)), some (vI x1), some (vI x2), some (vI x3), some (vI x4), some (vI x5), some (vI x6)] [] h K := by
  refine rr_aload_n dX1_init_0 rfl rfl ?_
  refine rr_objInit dX1_init_1 rfl q_331 q_23 q_24 (by decide) ?_
  refine rr_aload_n dX1_init_4 rfl rfl ?_
  refine rr_iload_n dX1_init_5 rfl rfl ?_
  refine rr_putF cf_X1 (j := 0) (by decide) dX1_init_6 rfl q_332 rfl rfl rfl (fty := .int) (by decide +kernel) rfl rfl hh (fun h1 hh => ?_)
  refine rr_aload_n dX1_init_9 rfl rfl ?_
  refine rr_iload_n dX1_init_10 rfl rfl ?_
  refine rr_putF cf_X1 (j := 1) (by decide) dX1_init_11 rfl q_336 rfl rfl rfl (fty := .int) (by decide +kernel) rfl rfl hh (fun h2 hh => ?_)
  refine rr_aload_n dX1_init_14 rfl rfl ?_
  refine rr_iload_n dX1_init_15 rfl rfl ?_
  refine rr_putF cf_X1 (j := 2) (by decide) dX1_init_16 rfl q_341 rfl rfl rfl (fty := .int) (by decide +kernel) rfl rfl hh (fun h3 hh => ?_)
  refine rr_aload_n dX1_init_19 rfl rfl ?_
  refine rr_iload dX1_init_20 rfl rfl ?_
  refine rr_putF cf_X1 (j := 3) (by decide) dX1_init_22 rfl q_343 rfl rfl rfl (fty := .int) (by decide +kernel) rfl rfl hh (fun h4 hh => ?_)
  refine rr_aload_n dX1_init_25 rfl rfl ?_
  refine rr_iload dX1_init_26 rfl rfl ?_
  refine rr_putF cf_X1 (j := 4) (by decide) dX1_init_28 rfl q_345 rfl rfl rfl (fty := .int) (by decide +kernel) rfl rfl hh (fun h5 hh => ?_)
  refine rr_aload_n dX1_init_31 rfl rfl ?_
  refine rr_iload dX1_init_32 rfl rfl ?_
  refine rr_if_ne (tgt := 41) dX1_init_34 rfl (by decide) (fun hc34 => ?_) (fun hc34 => ?_)
  · have hh := hh.1 hc34
    refine rr_iload dX1_init_41 rfl rfl ?_
    refine rr_putF cf_X1 (j := 5) (by decide) dX1_init_43 rfl q_347 rfl rfl rfl (fty := .int) (by decide +kernel) rfl rfl hh (fun h6 hh => ?_)
    exact rr_vret dX1_init_46 rfl hh
  · have hh := hh.2 hc34
    refine rr_iconst dX1_init_37 rfl ⟨by decide, by decide⟩ ?_
    refine rr_goto (pc' := 43) dX1_init_38 (by decide) ?_
    refine rr_putF cf_X1 (j := 5) (by decide) dX1_init_43 rfl q_347 rfl rfl rfl (fty := .int) (by decide +kernel) rfl rfl hh (fun h7 hh => ?_)
    exact rr_vret dX1_init_46 rfl hh
theorem dX1_isBefore_0 : decode cX1_isBefore 0 = .ok (.aload_n 1, 1) := by decide +kernel
theorem dX1_isBefore_1 : decode cX1_isBefore 1 = .ok (.ifnull 36, 3) := by decide +kernel
theorem dX1_isBefore_4 : decode cX1_isBefore 4 = .ok (.aload_n 0, 1) := by decide +kernel
theorem dX1_isBefore_5 : decode cX1_isBefore 5 = .ok (.getfield 15, 3) := by decide +kernel
theorem dX1_isBefore_8 : decode cX1_isBefore 8 = .ok (.aload_n 1, 1) := by decide +kernel
theorem dX1_isBefore_9 : decode cX1_isBefore 9 = .ok (.getfield 15, 3) := by decide +kernel
theorem dX1_isBefore_12 : decode cX1_isBefore 12 = .ok (.if_icmp .lt 25, 3) := by decide +kernel
theorem dX1_isBefore_15 : decode cX1_isBefore 15 = .ok (.aload_n 0, 1) := by decide +kernel
theorem dX1_isBefore_16 : decode cX1_isBefore 16 = .ok (.getfield 15, 3) := by decide +kernel
theorem dX1_isBefore_19 : decode cX1_isBefore 19 = .ok (.aload_n 1, 1) := by decide +kernel
theorem dX1_isBefore_20 : decode cX1_isBefore 20 = .ok (.getfield 15, 3) := by decide +kernel
theorem dX1_isBefore_23 : decode cX1_isBefore 23 = .ok (.if_icmp .ne 18, 3) := by decide +kernel
theorem dX1_isBefore_26 : decode cX1_isBefore 26 = .ok (.aload_n 0, 1) := by decide +kernel
theorem dX1_isBefore_27 : decode cX1_isBefore 27 = .ok (.getfield 9, 3) := by decide +kernel
theorem dX1_isBefore_30 : decode cX1_isBefore 30 = .ok (.aload_n 1, 1) := by decide +kernel
theorem dX1_isBefore_31 : decode cX1_isBefore 31 = .ok (.getfield 9, 3) := by decide +kernel
theorem dX1_isBefore_34 : decode cX1_isBefore 34 = .ok (.if_icmp .ge 7, 3) := by decide +kernel
theorem dX1_isBefore_37 : decode cX1_isBefore 37 = .ok (.iconst 1, 1) := by decide +kernel
theorem dX1_isBefore_38 : decode cX1_isBefore 38 = .ok (.goto 4, 3) := by decide +kernel
theorem dX1_isBefore_41 : decode cX1_isBefore 41 = .ok (.iconst 0, 1) := by decide +kernel
theorem dX1_isBefore_42 : decode cX1_isBefore 42 = .ok (.ireturn, 1) := by decide +kernel
set_option maxRecDepth 100000 in
theorem B_X1_isBefore_0 {d : Nat} {h : AbH} {K : Option AbV → AbH → Prop} {x0 : Nat} {x1 : Option Nat} (hh : ((x1 = none → K (some (vI 1)) h) ∧ (¬ (x1 = none) → wpGI h (some x0) 0 1 (fun n1 => wpGI h x1 0 1 (fun n2 => ((n1 < n2 → K (some (vI 1)) h) ∧ (¬ (n1 < n2) → wpGI h (some x0) 0 1 (fun n3 => wpGI h x1 0 1 (fun n4 => ((n3 ≠ n4 → K (some (vI 0)) h) ∧ (¬ (n3 ≠ n4) → wpGI h (some x0) 0 0 (fun n5 => wpGI h x1 0 0 (fun n6 => ((n6 ≤ n5 → K (some (vI 0)) h) ∧ (¬ (n6 ≤ n5) → K (some (vI 1)) h))))))))))))))) : Vx (d + 1) m_X1_isBefore 0 0 0 [some (vR (some x0)), some (vR x1)] [] h K := by
  refine rr_aload_n dX1_isBefore_0 rfl rfl ?_
  refine rr_ifnull (tgt := 37) dX1_isBefore_1 rfl (by decide) (fun hc1 => ?_) (fun hc1 => ?_)
  · have hh := hh.1 hc1
    refine rr_iconst dX1_isBefore_37 rfl ⟨by decide, by decide⟩ ?_
    refine rr_goto (pc' := 42) dX1_isBefore_38 (by decide) ?_
    exact rr_zret dX1_isBefore_42 rfl rfl hh
  · have hh := hh.2 hc1
    refine rr_aload_n dX1_isBefore_4 rfl rfl ?_
    refine rr_getI cf_X1 (j := 1) (by decide) dX1_isBefore_5 rfl q_336 hh (fun n1 hh => ?_)
    refine rr_aload_n dX1_isBefore_8 rfl rfl ?_
    refine rr_getI cf_X1 (j := 1) (by decide) dX1_isBefore_9 rfl q_336 hh (fun n2 hh => ?_)
    refine rr_icmp_lt (tgt := 37) dX1_isBefore_12 rfl (by decide) (fun hc12 => ?_) (fun hc12 => ?_)
    · have hh := hh.1 hc12
      refine rr_iconst dX1_isBefore_37 rfl ⟨by decide, by decide⟩ ?_
      refine rr_goto (pc' := 42) dX1_isBefore_38 (by decide) ?_
      exact rr_zret dX1_isBefore_42 rfl rfl hh
    · have hh := hh.2 hc12
      refine rr_aload_n dX1_isBefore_15 rfl rfl ?_
      refine rr_getI cf_X1 (j := 1) (by decide) dX1_isBefore_16 rfl q_336 hh (fun n3 hh => ?_)
      refine rr_aload_n dX1_isBefore_19 rfl rfl ?_
      refine rr_getI cf_X1 (j := 1) (by decide) dX1_isBefore_20 rfl q_336 hh (fun n4 hh => ?_)
      refine rr_icmp_ne (tgt := 41) dX1_isBefore_23 rfl (by decide) (fun hc23 => ?_) (fun hc23 => ?_)
      · have hh := hh.1 hc23
        refine rr_iconst dX1_isBefore_41 rfl ⟨by decide, by decide⟩ ?_
        exact rr_zret dX1_isBefore_42 rfl rfl hh
      · have hh := hh.2 hc23
        refine rr_aload_n dX1_isBefore_26 rfl rfl ?_
        refine rr_getI cf_X1 (j := 0) (by decide) dX1_isBefore_27 rfl q_332 hh (fun n5 hh => ?_)
        refine rr_aload_n dX1_isBefore_30 rfl rfl ?_
        refine rr_getI cf_X1 (j := 0) (by decide) dX1_isBefore_31 rfl q_332 hh (fun n6 hh => ?_)
        refine rr_icmp_ge (tgt := 41) dX1_isBefore_34 rfl (by decide) (fun hc34 => ?_) (fun hc34 => ?_)
        · have hh := hh.1 hc34
          refine rr_iconst dX1_isBefore_41 rfl ⟨by decide, by decide⟩ ?_
          exact rr_zret dX1_isBefore_42 rfl rfl hh
        · have hh := hh.2 hc34
          refine rr_iconst dX1_isBefore_37 rfl ⟨by decide, by decide⟩ ?_
          refine rr_goto (pc' := 42) dX1_isBefore_38 (by decide) ?_
          exact rr_zret dX1_isBefore_42 rfl rfl hh
theorem dX1_affects_0 : decode cX1_affects 0 = .ok (.aload_n 0, 1) := by decide +kernel
theorem dX1_affects_1 : decode cX1_affects 1 = .ok (.lload_n 1, 1) := by decide +kernel
theorem dX1_affects_2 : decode cX1_affects 2 = .ok (.invokevirtual 30, 3) := by decide +kernel
theorem dX1_affects_5 : decode cX1_affects 5 = .ok (.lload_n 1, 1) := by decide +kernel
theorem dX1_affects_6 : decode cX1_affects 6 = .ok (.lcmp, 1) := by decide +kernel
theorem dX1_affects_7 : decode cX1_affects 7 = .ok (.ifCond .eq 7, 3) := by decide +kernel
theorem dX1_affects_10 : decode cX1_affects 10 = .ok (.iconst 1, 1) := by decide +kernel
theorem dX1_affects_11 : decode cX1_affects 11 = .ok (.goto 4, 3) := by decide +kernel
theorem dX1_affects_14 : decode cX1_affects 14 = .ok (.iconst 0, 1) := by decide +kernel
theorem dX1_affects_15 : decode cX1_affects 15 = .ok (.ireturn, 1) := by decide +kernel
set_option maxRecDepth 100000 in
theorem B_X1_affects_0 {d : Nat} {h : AbH} {K : Option AbV → AbH → Prop} {x0 : Nat} {x1 : Int} (hh : wpCV h (some x0) 0 (fun b3 => Vm d m_X1_applied [vR (some b3), vL x1] h (kL (fun n2 h1 => ((n2 = x1 → K (some (vI 0)) h1) ∧ (¬ (n2 = x1) → K (some (vI 1)) h1)))))) : Vx (d + 1) m_X1_affects 0 0 0 [some (vR (some x0)), some (vL x1), none] [] h K := by
  refine rr_aload_n dX1_affects_0 rfl rfl ?_
  refine rr_lload_n dX1_affects_1 rfl rfl ?_
  refine rr_callW (bc' := 0) (bs' := 0) (q := (some x0)) (av := [vL x1]) (st := []) mf_X1_applied dX1_affects_2 rfl q_674 q_516 q_517 ⟨_, _, rfl⟩ rfl (by decide) (Nat.le_refl _) (Nat.le_refl _) hh (rr_kL fun n2 h1 hh => ?_)
  refine rr_lload_n dX1_affects_5 rfl rfl ?_
  refine rr_lcmp dX1_affects_6 rfl ?_
  refine rr_if_eq (tgt := 14) dX1_affects_7 rfl (by decide) (fun hc7 => ?_) (fun hc7 => ?_)
  · have hh := hh.1 (lcm_eq.mp hc7)
    refine rr_iconst dX1_affects_14 rfl ⟨by decide, by decide⟩ ?_
    exact rr_zret dX1_affects_15 rfl rfl hh
  · have hh := hh.2 (fun z => hc7 (lcm_eq.mpr z))
    refine rr_iconst dX1_affects_10 rfl ⟨by decide, by decide⟩ ?_
    refine rr_goto (pc' := 15) dX1_affects_11 (by decide) ?_
    exact rr_zret dX1_affects_15 rfl rfl hh
theorem dX1_applied_0 : decode cX1_applied 0 = .ok (.lconst 0, 1) := by decide +kernel
theorem dX1_applied_1 : decode cX1_applied 1 = .ok (.lstore_n 3, 1) := by decide +kernel
theorem dX1_applied_2 : decode cX1_applied 2 = .ok (.iconst 0, 1) := by decide +kernel
theorem dX1_applied_3 : decode cX1_applied 3 = .ok (.istore 5, 2) := by decide +kernel
theorem dX1_applied_5 : decode cX1_applied 5 = .ok (.aload_n 0, 1) := by decide +kernel
theorem dX1_applied_6 : decode cX1_applied 6 = .ok (.getfield 24, 3) := by decide +kernel
theorem dX1_applied_9 : decode cX1_applied 9 = .ok (.iconst 1, 1) := by decide +kernel
theorem dX1_applied_10 : decode cX1_applied 10 = .ok (.if_icmp .ne 7, 3) := by decide +kernel
theorem dX1_applied_13 : decode cX1_applied 13 = .ok (.iconst 1, 1) := by decide +kernel
theorem dX1_applied_14 : decode cX1_applied 14 = .ok (.goto 4, 3) := by decide +kernel
theorem dX1_applied_17 : decode cX1_applied 17 = .ok (.iconst (-1), 1) := by decide +kernel
theorem dX1_applied_18 : decode cX1_applied 18 = .ok (.istore 6, 2) := by decide +kernel
theorem dX1_applied_20 : decode cX1_applied 20 = .ok (.iconst 0, 1) := by decide +kernel
theorem dX1_applied_21 : decode cX1_applied 21 = .ok (.istore 7, 2) := by decide +kernel
theorem dX1_applied_23 : decode cX1_applied 23 = .ok (.iload 7, 2) := by decide +kernel
theorem dX1_applied_25 : decode cX1_applied 25 = .ok (.bipush 10, 2) := by decide +kernel
theorem dX1_applied_27 : decode cX1_applied 27 = .ok (.if_icmp .ge 105, 3) := by decide +kernel
theorem dX1_applied_30 : decode cX1_applied 30 = .ok (.lload_n 1, 1) := by decide +kernel
theorem dX1_applied_31 : decode cX1_applied 31 = .ok (.iload 7, 2) := by decide +kernel
theorem dX1_applied_33 : decode cX1_applied 33 = .ok (.invokestatic 36, 3) := by decide +kernel
theorem dX1_applied_36 : decode cX1_applied 36 = .ok (.istore 8, 2) := by decide +kernel
theorem dX1_applied_38 : decode cX1_applied 38 = .ok (.iload 8, 2) := by decide +kernel
theorem dX1_applied_40 : decode cX1_applied 40 = .ok (.iconst (-1), 1) := by decide +kernel
theorem dX1_applied_41 : decode cX1_applied 41 = .ok (.if_icmp .ne 6, 3) := by decide +kernel
theorem dX1_applied_44 : decode cX1_applied 44 = .ok (.goto 88, 3) := by decide +kernel
theorem dX1_applied_47 : decode cX1_applied 47 = .ok (.iload 8, 2) := by decide +kernel
theorem dX1_applied_49 : decode cX1_applied 49 = .ok (.aload_n 0, 1) := by decide +kernel
theorem dX1_applied_50 : decode cX1_applied 50 = .ok (.getfield 18, 3) := by decide +kernel
theorem dX1_applied_53 : decode cX1_applied 53 = .ok (.if_icmp .ne 30, 3) := by decide +kernel
theorem dX1_applied_56 : decode cX1_applied 56 = .ok (.aload_n 0, 1) := by decide +kernel
theorem dX1_applied_57 : decode cX1_applied 57 = .ok (.getfield 24, 3) := by decide +kernel
theorem dX1_applied_60 : decode cX1_applied 60 = .ok (.ifCond .eq 19, 3) := by decide +kernel
theorem dX1_applied_63 : decode cX1_applied 63 = .ok (.lload_n 1, 1) := by decide +kernel
theorem dX1_applied_64 : decode cX1_applied 64 = .ok (.iload 7, 2) := by decide +kernel
theorem dX1_applied_66 : decode cX1_applied 66 = .ok (.iload 6, 2) := by decide +kernel
theorem dX1_applied_68 : decode cX1_applied 68 = .ok (.iadd, 1) := by decide +kernel
theorem dX1_applied_69 : decode cX1_applied 69 = .ok (.invokestatic 36, 3) := by decide +kernel
theorem dX1_applied_72 : decode cX1_applied 72 = .ok (.aload_n 0, 1) := by decide +kernel
theorem dX1_applied_73 : decode cX1_applied 73 = .ok (.getfield 27, 3) := by decide +kernel
theorem dX1_applied_76 : decode cX1_applied 76 = .ok (.if_icmp .ne 7, 3) := by decide +kernel
theorem dX1_applied_79 : decode cX1_applied 79 = .ok (.iconst 1, 1) := by decide +kernel
theorem dX1_applied_80 : decode cX1_applied 80 = .ok (.goto 4, 3) := by decide +kernel
theorem dX1_applied_83 : decode cX1_applied 83 = .ok (.iconst 0, 1) := by decide +kernel
theorem dX1_applied_84 : decode cX1_applied 84 = .ok (.istore 9, 2) := by decide +kernel
theorem dX1_applied_86 : decode cX1_applied 86 = .ok (.iload 9, 2) := by decide +kernel
theorem dX1_applied_88 : decode cX1_applied 88 = .ok (.ifCond .eq 14, 3) := by decide +kernel
theorem dX1_applied_91 : decode cX1_applied 91 = .ok (.aload_n 0, 1) := by decide +kernel
theorem dX1_applied_92 : decode cX1_applied 92 = .ok (.getfield 21, 3) := by decide +kernel
theorem dX1_applied_95 : decode cX1_applied 95 = .ok (.iconst (-1), 1) := by decide +kernel
theorem dX1_applied_96 : decode cX1_applied 96 = .ok (.if_icmp .ne 6, 3) := by decide +kernel
theorem dX1_applied_99 : decode cX1_applied 99 = .ok (.goto 27, 3) := by decide +kernel
theorem dX1_applied_102 : decode cX1_applied 102 = .ok (.lload_n 3, 1) := by decide +kernel
theorem dX1_applied_103 : decode cX1_applied 103 = .ok (.iload 5, 2) := by decide +kernel
theorem dX1_applied_105 : decode cX1_applied 105 = .ok (.iload 9, 2) := by decide +kernel
theorem dX1_applied_107 : decode cX1_applied 107 = .ok (.ifCond .eq 10, 3) := by decide +kernel
theorem dX1_applied_110 : decode cX1_applied 110 = .ok (.aload_n 0, 1) := by decide +kernel
theorem dX1_applied_111 : decode cX1_applied 111 = .ok (.getfield 21, 3) := by decide +kernel
theorem dX1_applied_114 : decode cX1_applied 114 = .ok (.goto 5, 3) := by decide +kernel
theorem dX1_applied_117 : decode cX1_applied 117 = .ok (.iload 8, 2) := by decide +kernel
theorem dX1_applied_119 : decode cX1_applied 119 = .ok (.invokestatic 40, 3) := by decide +kernel
theorem dX1_applied_122 : decode cX1_applied 122 = .ok (.lstore_n 3, 1) := by decide +kernel
theorem dX1_applied_123 : decode cX1_applied 123 = .ok (.iinc 5 1, 3) := by decide +kernel
theorem dX1_applied_126 : decode cX1_applied 126 = .ok (.iinc 7 1, 3) := by decide +kernel
theorem dX1_applied_129 : decode cX1_applied 129 = .ok (.goto (-106), 3) := by decide +kernel
theorem dX1_applied_132 : decode cX1_applied 132 = .ok (.lload_n 3, 1) := by decide +kernel
theorem dX1_applied_133 : decode cX1_applied 133 = .ok (.lreturn, 1) := by decide +kernel
set_option maxRecDepth 100000 in
theorem B_X1_applied_0 {d : Nat} {h : AbH} {K : Option AbV → AbH → Prop} {x0 : Nat} {x1 : Int} (hh : wpGI h (some x0) 0 4 (fun n1 => ((n1 ≠ 1 → Vx (d + 1) m_X1_applied 0 0 23 [some (vR (some x0)), some (vL x1), none, some (vL 0), none, some (vI 0), some (vI (-1)), some (vI 0), none, none] [] h K) ∧ (¬ (n1 ≠ 1) → Vx (d + 1) m_X1_applied 0 0 23 [some (vR (some x0)), some (vL x1), none, some (vL 0), none, some (vI 0), some (vI 1), some (vI 0), none, none] [] h K)))) : Vx (d + 1) m_X1_applied 0 0 0 [some (vR (some x0)), some (vL x1), none] [] h K := by
  refine Vx.pad 7 [some (vR (some x0)), some (vL x1), none, none, none, none, none, none, none, none] rfl ?_
  refine rr_lconst (n := 0) dX1_applied_0 rfl ⟨by decide, by decide⟩ rfl ?_
  refine rr_lstore_n (ls' := [some (vR (some x0)), some (vL x1), none, some (vL 0), none, none, none, none, none, none]) dX1_applied_1 rfl (by decide) (fun _ z => by cases z) rfl ?_
  refine rr_iconst dX1_applied_2 rfl ⟨by decide, by decide⟩ ?_
  refine rr_istore (ls' := [some (vR (some x0)), some (vL x1), none, some (vL 0), none, some (vI 0), none, none, none, none]) dX1_applied_3 rfl (by decide) (fun _ z => by cases z) rfl ?_
  refine rr_aload_n dX1_applied_5 rfl rfl ?_
  refine rr_getI cf_X1 (j := 4) (by decide) dX1_applied_6 rfl q_345 hh (fun n1 hh => ?_)
  refine rr_iconst dX1_applied_9 rfl ⟨by decide, by decide⟩ ?_
  refine rr_icmp_ne (tgt := 17) dX1_applied_10 rfl (by decide) (fun hc10 => ?_) (fun hc10 => ?_)
  · have hh := hh.1 hc10
    refine rr_iconst dX1_applied_17 rfl ⟨by decide, by decide⟩ ?_
    refine rr_istore (ls' := [some (vR (some x0)), some (vL x1), none, some (vL 0), none, some (vI 0), some (vI (-1)), none, none, none]) dX1_applied_18 rfl (by decide) (fun _ z => by cases z) rfl ?_
    refine rr_iconst dX1_applied_20 rfl ⟨by decide, by decide⟩ ?_
    refine rr_istore (ls' := [some (vR (some x0)), some (vL x1), none, some (vL 0), none, some (vI 0), some (vI (-1)), some (vI 0), none, none]) dX1_applied_21 rfl (by decide) (fun _ z => by cases z) rfl ?_
    exact hh
  · have hh := hh.2 hc10
    refine rr_iconst dX1_applied_13 rfl ⟨by decide, by decide⟩ ?_
    refine rr_goto (pc' := 18) dX1_applied_14 (by decide) ?_
    refine rr_istore (ls' := [some (vR (some x0)), some (vL x1), none, some (vL 0), none, some (vI 0), some (vI 1), none, none, none]) dX1_applied_18 rfl (by decide) (fun _ z => by cases z) rfl ?_
    refine rr_iconst dX1_applied_20 rfl ⟨by decide, by decide⟩ ?_
    refine rr_istore (ls' := [some (vR (some x0)), some (vL x1), none, some (vL 0), none, some (vI 0), some (vI 1), some (vI 0), none, none]) dX1_applied_21 rfl (by decide) (fun _ z => by cases z) rfl ?_
    exact hh
set_option maxRecDepth 100000 in
theorem B_X1_applied_23 {d : Nat} {h : AbH} {K : Option AbV → AbH → Prop} {x0 : Nat} {x1 : Int} {x3 : Int} {x5 : Int} {x6 : Int} {x7 : Int} {bc bs : Nat} (hh : ((10 ≤ x7 → K (some (vL x3)) h) ∧ (¬ (10 ≤ x7) → Vm d m_X0_soundAt [vL x1, vI x7] h (kI (fun n2 h1 => ((n2 ≠ (-1) → wpGI h1 (some x0) 0 2 (fun n3 => ((n2 ≠ n3 → Vx (d + 1) m_X1_applied bc bs 86 [some (vR (some x0)), some (vL x1), none, some (vL x3), none, some (vI x5), some (vI x6), some (vI x7), some (vI n2), some (vI 0)] [] h1 K) ∧ (¬ (n2 ≠ n3) → wpGI h1 (some x0) 0 4 (fun n4 => ((n4 = 0 → Vx (d + 1) m_X1_applied bc bs 86 [some (vR (some x0)), some (vL x1), none, some (vL x3), none, some (vI x5), some (vI x6), some (vI x7), some (vI n2), some (vI 1)] [] h1 K) ∧ (¬ (n4 = 0) → in32 (x7 + x6) ∧ Vm d m_X0_soundAt [vL x1, vI (x7 + x6)] h1 (kI (fun n7 h6 => wpGI h6 (some x0) 0 5 (fun n8 => ((n7 ≠ n8 → Vx (d + 1) m_X1_applied bc bs 86 [some (vR (some x0)), some (vL x1), none, some (vL x3), none, some (vI x5), some (vI x6), some (vI x7), some (vI n2), some (vI 0)] [] h6 K) ∧ (¬ (n7 ≠ n8) → Vx (d + 1) m_X1_applied bc bs 86 [some (vR (some x0)), some (vL x1), none, some (vL x3), none, some (vI x5), some (vI x6), some (vI x7), some (vI n2), some (vI 1)] [] h6 K)))))))))))) ∧ (¬ (n2 ≠ (-1)) → K (some (vL x3)) h1))))))) : Vx (d + 1) m_X1_applied bc bs 23 [some (vR (some x0)), some (vL x1), none, some (vL x3), none, some (vI x5), some (vI x6), some (vI x7), none, none] [] h K := by
  refine rr_iload dX1_applied_23 rfl rfl ?_
  refine rr_bipush dX1_applied_25 rfl ⟨by decide, by decide⟩ rfl ?_
  refine rr_icmp_ge (tgt := 132) dX1_applied_27 rfl (by decide) (fun hc27 => ?_) (fun hc27 => ?_)
  · have hh := hh.1 hc27
    refine rr_lload_n dX1_applied_132 rfl rfl ?_
    exact rr_lret dX1_applied_133 rfl hh
  · have hh := hh.2 hc27
    refine rr_lload_n dX1_applied_30 rfl rfl ?_
    refine rr_iload dX1_applied_31 rfl rfl ?_
    refine rr_callS (bc' := bc) (bs' := bs) (av := [vL x1, vI x7]) (st := []) mf_X0_soundAt dX1_applied_33 rfl q_519 q_520 rfl (by decide) (Nat.le_refl _) (Nat.le_refl _) hh (rr_kI fun n2 h1 hh => ?_)
    refine rr_istore (ls' := [some (vR (some x0)), some (vL x1), none, some (vL x3), none, some (vI x5), some (vI x6), some (vI x7), some (vI n2), none]) dX1_applied_36 rfl (by decide) (fun _ z => by cases z) rfl ?_
    refine rr_iload dX1_applied_38 rfl rfl ?_
    refine rr_iconst dX1_applied_40 rfl ⟨by decide, by decide⟩ ?_
    refine rr_icmp_ne (tgt := 47) dX1_applied_41 rfl (by decide) (fun hc41 => ?_) (fun hc41 => ?_)
    · have hh := hh.1 hc41
      refine rr_iload dX1_applied_47 rfl rfl ?_
      refine rr_aload_n dX1_applied_49 rfl rfl ?_
      refine rr_getI cf_X1 (j := 2) (by decide) dX1_applied_50 rfl q_341 hh (fun n3 hh => ?_)
      refine rr_icmp_ne (tgt := 83) dX1_applied_53 rfl (by decide) (fun hc53 => ?_) (fun hc53 => ?_)
      · have hh := hh.1 hc53
        refine rr_iconst dX1_applied_83 rfl ⟨by decide, by decide⟩ ?_
        refine rr_istore (ls' := [some (vR (some x0)), some (vL x1), none, some (vL x3), none, some (vI x5), some (vI x6), some (vI x7), some (vI n2), some (vI 0)]) dX1_applied_84 rfl (by decide) (fun _ z => by cases z) rfl ?_
        exact hh
      · have hh := hh.2 hc53
        refine rr_aload_n dX1_applied_56 rfl rfl ?_
        refine rr_getI cf_X1 (j := 4) (by decide) dX1_applied_57 rfl q_345 hh (fun n4 hh => ?_)
        refine rr_if_eq (tgt := 79) dX1_applied_60 rfl (by decide) (fun hc60 => ?_) (fun hc60 => ?_)
        · have hh := hh.1 hc60
          refine rr_iconst dX1_applied_79 rfl ⟨by decide, by decide⟩ ?_
          refine rr_goto (pc' := 84) dX1_applied_80 (by decide) ?_
          refine rr_istore (ls' := [some (vR (some x0)), some (vL x1), none, some (vL x3), none, some (vI x5), some (vI x6), some (vI x7), some (vI n2), some (vI 1)]) dX1_applied_84 rfl (by decide) (fun _ z => by cases z) rfl ?_
          exact hh
        · have hh := hh.2 hc60
          refine rr_lload_n dX1_applied_63 rfl rfl ?_
          refine rr_iload dX1_applied_64 rfl rfl ?_
          refine rr_iload dX1_applied_66 rfl rfl ?_
          obtain ⟨hz5, hh⟩ := hh
          refine rr_iadd dX1_applied_68 rfl hz5 ?_
          refine rr_callS (bc' := bc) (bs' := bs) (av := [vL x1, vI (x7 + x6)]) (st := []) mf_X0_soundAt dX1_applied_69 rfl q_519 q_520 rfl (by decide) (Nat.le_refl _) (Nat.le_refl _) hh (rr_kI fun n7 h6 hh => ?_)
          refine rr_aload_n dX1_applied_72 rfl rfl ?_
          refine rr_getI cf_X1 (j := 5) (by decide) dX1_applied_73 rfl q_347 hh (fun n8 hh => ?_)
          refine rr_icmp_ne (tgt := 83) dX1_applied_76 rfl (by decide) (fun hc76 => ?_) (fun hc76 => ?_)
          · have hh := hh.1 hc76
            refine rr_iconst dX1_applied_83 rfl ⟨by decide, by decide⟩ ?_
            refine rr_istore (ls' := [some (vR (some x0)), some (vL x1), none, some (vL x3), none, some (vI x5), some (vI x6), some (vI x7), some (vI n2), some (vI 0)]) dX1_applied_84 rfl (by decide) (fun _ z => by cases z) rfl ?_
            exact hh
          · have hh := hh.2 hc76
            refine rr_iconst dX1_applied_79 rfl ⟨by decide, by decide⟩ ?_
            refine rr_goto (pc' := 84) dX1_applied_80 (by decide) ?_
            refine rr_istore (ls' := [some (vR (some x0)), some (vL x1), none, some (vL x3), none, some (vI x5), some (vI x6), some (vI x7), some (vI n2), some (vI 1)]) dX1_applied_84 rfl (by decide) (fun _ z => by cases z) rfl ?_
            exact hh
    · have hh := hh.2 hc41
      refine rr_goto (pc' := 132) dX1_applied_44 (by decide) ?_
      refine rr_lload_n dX1_applied_132 rfl rfl ?_
      exact rr_lret dX1_applied_133 rfl hh
set_option maxRecDepth 100000 in
theorem B_X1_applied_86 {d : Nat} {h : AbH} {K : Option AbV → AbH → Prop} {x0 : Nat} {x1 : Int} {x3 : Int} {x5 : Int} {x6 : Int} {x7 : Int} {x8 : Int} {x9 : Int} {bc bs : Nat} (hh : ((x9 = 0 → ((x9 = 0 → Vm d m_X0_longer [vL x3, vI x5, vI x8] h (kL (fun n2 h1 => in32 (x5 + 1) ∧ in32 (x7 + 1) ∧ Vx (d + 1) m_X1_applied bc bs 23 [some (vR (some x0)), some (vL x1), none, some (vL n2), none, some (vI (x5 + 1)), some (vI x6), some (vI (x7 + 1)), none, none] [] h1 K))) ∧ (¬ (x9 = 0) → wpGI h (some x0) 0 3 (fun n5 => Vm d m_X0_longer [vL x3, vI x5, vI n5] h (kL (fun n7 h6 => in32 (x5 + 1) ∧ in32 (x7 + 1) ∧ Vx (d + 1) m_X1_applied bc bs 23 [some (vR (some x0)), some (vL x1), none, some (vL n7), none, some (vI (x5 + 1)), some (vI x6), some (vI (x7 + 1)), none, none] [] h6 K)))))) ∧ (¬ (x9 = 0) → wpGI h (some x0) 0 3 (fun n10 => ((n10 ≠ (-1) → ((x9 = 0 → Vm d m_X0_longer [vL x3, vI x5, vI x8] h (kL (fun n12 h11 => in32 (x5 + 1) ∧ in32 (x7 + 1) ∧ Vx (d + 1) m_X1_applied bc bs 23 [some (vR (some x0)), some (vL x1), none, some (vL n12), none, some (vI (x5 + 1)), some (vI x6), some (vI (x7 + 1)), none, none] [] h11 K))) ∧ (¬ (x9 = 0) → wpGI h (some x0) 0 3 (fun n15 => Vm d m_X0_longer [vL x3, vI x5, vI n15] h (kL (fun n17 h16 => in32 (x5 + 1) ∧ in32 (x7 + 1) ∧ Vx (d + 1) m_X1_applied bc bs 23 [some (vR (some x0)), some (vL x1), none, some (vL n17), none, some (vI (x5 + 1)), some (vI x6), some (vI (x7 + 1)), none, none] [] h16 K)))))) ∧ (¬ (n10 ≠ (-1)) → in32 (x7 + 1) ∧ Vx (d + 1) m_X1_applied bc bs 23 [some (vR (some x0)), some (vL x1), none, some (vL x3), none, some (vI x5), some (vI x6), some (vI (x7 + 1)), none, none] [] h K)))))) : Vx (d + 1) m_X1_applied bc bs 86 [some (vR (some x0)), some (vL x1), none, some (vL x3), none, some (vI x5), some (vI x6), some (vI x7), some (vI x8), some (vI x9)] [] h K := by
  refine rr_iload dX1_applied_86 rfl rfl ?_
  refine rr_if_eq (tgt := 102) dX1_applied_88 rfl (by decide) (fun hc88 => ?_) (fun hc88 => ?_)
  · have hh := hh.1 hc88
    refine rr_lload_n dX1_applied_102 rfl rfl ?_
    refine rr_iload dX1_applied_103 rfl rfl ?_
    refine rr_iload dX1_applied_105 rfl rfl ?_
    refine rr_if_eq (tgt := 117) dX1_applied_107 rfl (by decide) (fun hc107 => ?_) (fun hc107 => ?_)
    · have hh := hh.1 hc107
      refine rr_iload dX1_applied_117 rfl rfl ?_
      refine rr_callS (bc' := bc) (bs' := bs) (av := [vL x3, vI x5, vI x8]) (st := []) mf_X0_longer dX1_applied_119 rfl q_523 q_398 rfl (by decide) (Nat.le_refl _) (Nat.le_refl _) hh (rr_kL fun n2 h1 hh => ?_)
      refine rr_lstore_n (ls' := [some (vR (some x0)), some (vL x1), none, some (vL n2), none, some (vI x5), some (vI x6), some (vI x7), some (vI x8), some (vI x9)]) dX1_applied_122 rfl (by decide) (fun _ z => by cases z) rfl ?_
      obtain ⟨hz3, hh⟩ := hh
      refine rr_iinc (ls' := [some (vR (some x0)), some (vL x1), none, some (vL n2), none, some (vI (x5 + 1)), some (vI x6), some (vI x7), some (vI x8), some (vI x9)]) dX1_applied_123 rfl rfl (by decide) (fun _ z => by cases z) hz3 rfl ?_
      obtain ⟨hz4, hh⟩ := hh
      refine rr_iinc (ls' := [some (vR (some x0)), some (vL x1), none, some (vL n2), none, some (vI (x5 + 1)), some (vI x6), some (vI (x7 + 1)), some (vI x8), some (vI x9)]) dX1_applied_126 rfl rfl (by decide) (fun _ z => by cases z) hz4 rfl ?_
      refine rr_goto (pc' := 23) dX1_applied_129 (by decide) ?_
      exact Vx.forget (ls' := [some (vR (some x0)), some (vL x1), none, some (vL n2), none, some (vI (x5 + 1)), some (vI x6), some (vI (x7 + 1)), none, none]) (And.intro rfl (And.intro rfl (And.intro rfl (And.intro rfl (And.intro rfl (And.intro rfl trivial)))))) hh
    · have hh := hh.2 hc107
      refine rr_aload_n dX1_applied_110 rfl rfl ?_
      refine rr_getI cf_X1 (j := 3) (by decide) dX1_applied_111 rfl q_343 hh (fun n5 hh => ?_)
      refine rr_goto (pc' := 119) dX1_applied_114 (by decide) ?_
      refine rr_callS (bc' := bc) (bs' := bs) (av := [vL x3, vI x5, vI n5]) (st := []) mf_X0_longer dX1_applied_119 rfl q_523 q_398 rfl (by decide) (Nat.le_refl _) (Nat.le_refl _) hh (rr_kL fun n7 h6 hh => ?_)
      refine rr_lstore_n (ls' := [some (vR (some x0)), some (vL x1), none, some (vL n7), none, some (vI x5), some (vI x6), some (vI x7), some (vI x8), some (vI x9)]) dX1_applied_122 rfl (by decide) (fun _ z => by cases z) rfl ?_
      obtain ⟨hz8, hh⟩ := hh
      refine rr_iinc (ls' := [some (vR (some x0)), some (vL x1), none, some (vL n7), none, some (vI (x5 + 1)), some (vI x6), some (vI x7), some (vI x8), some (vI x9)]) dX1_applied_123 rfl rfl (by decide) (fun _ z => by cases z) hz8 rfl ?_
      obtain ⟨hz9, hh⟩ := hh
      refine rr_iinc (ls' := [some (vR (some x0)), some (vL x1), none, some (vL n7), none, some (vI (x5 + 1)), some (vI x6), some (vI (x7 + 1)), some (vI x8), some (vI x9)]) dX1_applied_126 rfl rfl (by decide) (fun _ z => by cases z) hz9 rfl ?_
      refine rr_goto (pc' := 23) dX1_applied_129 (by decide) ?_
      exact Vx.forget (ls' := [some (vR (some x0)), some (vL x1), none, some (vL n7), none, some (vI (x5 + 1)), some (vI x6), some (vI (x7 + 1)), none, none]) (And.intro rfl (And.intro rfl (And.intro rfl (And.intro rfl (And.intro rfl (And.intro rfl trivial)))))) hh
  · have hh := hh.2 hc88
    refine rr_aload_n dX1_applied_91 rfl rfl ?_
    refine rr_getI cf_X1 (j := 3) (by decide) dX1_applied_92 rfl q_343 hh (fun n10 hh => ?_)
    refine rr_iconst dX1_applied_95 rfl ⟨by decide, by decide⟩ ?_
    refine rr_icmp_ne (tgt := 102) dX1_applied_96 rfl (by decide) (fun hc96 => ?_) (fun hc96 => ?_)
    · have hh := hh.1 hc96
      refine rr_lload_n dX1_applied_102 rfl rfl ?_
      refine rr_iload dX1_applied_103 rfl rfl ?_
      refine rr_iload dX1_applied_105 rfl rfl ?_
      refine rr_if_eq (tgt := 117) dX1_applied_107 rfl (by decide) (fun hc107 => ?_) (fun hc107 => ?_)
      · have hh := hh.1 hc107
        refine rr_iload dX1_applied_117 rfl rfl ?_
        refine rr_callS (bc' := bc) (bs' := bs) (av := [vL x3, vI x5, vI x8]) (st := []) mf_X0_longer dX1_applied_119 rfl q_523 q_398 rfl (by decide) (Nat.le_refl _) (Nat.le_refl _) hh (rr_kL fun n12 h11 hh => ?_)
        refine rr_lstore_n (ls' := [some (vR (some x0)), some (vL x1), none, some (vL n12), none, some (vI x5), some (vI x6), some (vI x7), some (vI x8), some (vI x9)]) dX1_applied_122 rfl (by decide) (fun _ z => by cases z) rfl ?_
        obtain ⟨hz13, hh⟩ := hh
        refine rr_iinc (ls' := [some (vR (some x0)), some (vL x1), none, some (vL n12), none, some (vI (x5 + 1)), some (vI x6), some (vI x7), some (vI x8), some (vI x9)]) dX1_applied_123 rfl rfl (by decide) (fun _ z => by cases z) hz13 rfl ?_
        obtain ⟨hz14, hh⟩ := hh
        refine rr_iinc (ls' := [some (vR (some x0)), some (vL x1), none, some (vL n12), none, some (vI (x5 + 1)), some (vI x6), some (vI (x7 + 1)), some (vI x8), some (vI x9)]) dX1_applied_126 rfl rfl (by decide) (fun _ z => by cases z) hz14 rfl ?_
        refine rr_goto (pc' := 23) dX1_applied_129 (by decide) ?_
        exact Vx.forget (ls' := [some (vR (some x0)), some (vL x1), none, some (vL n12), none, some (vI (x5 + 1)), some (vI x6), some (vI (x7 + 1)), none, none]) (And.intro rfl (And.intro rfl (And.intro rfl (And.intro rfl (And.intro rfl (And.intro rfl trivial)))))) hh
      · have hh := hh.2 hc107
        refine rr_aload_n dX1_applied_110 rfl rfl ?_
        refine rr_getI cf_X1 (j := 3) (by decide) dX1_applied_111 rfl q_343 hh (fun n15 hh => ?_)
        refine rr_goto (pc' := 119) dX1_applied_114 (by decide) ?_
        refine rr_callS (bc' := bc) (bs' := bs) (av := [vL x3, vI x5, vI n15]) (st := []) mf_X0_longer dX1_applied_119 rfl q_523 q_398 rfl (by decide) (Nat.le_refl _) (Nat.le_refl _) hh (rr_kL fun n17 h16 hh => ?_)
        refine rr_lstore_n (ls' := [some (vR (some x0)), some (vL x1), none, some (vL n17), none, some (vI x5), some (vI x6), some (vI x7), some (vI x8), some (vI x9)]) dX1_applied_122 rfl (by decide) (fun _ z => by cases z) rfl ?_
        obtain ⟨hz18, hh⟩ := hh
        refine rr_iinc (ls' := [some (vR (some x0)), some (vL x1), none, some (vL n17), none, some (vI (x5 + 1)), some (vI x6), some (vI x7), some (vI x8), some (vI x9)]) dX1_applied_123 rfl rfl (by decide) (fun _ z => by cases z) hz18 rfl ?_
        obtain ⟨hz19, hh⟩ := hh
        refine rr_iinc (ls' := [some (vR (some x0)), some (vL x1), none, some (vL n17), none, some (vI (x5 + 1)), some (vI x6), some (vI (x7 + 1)), some (vI x8), some (vI x9)]) dX1_applied_126 rfl rfl (by decide) (fun _ z => by cases z) hz19 rfl ?_
        refine rr_goto (pc' := 23) dX1_applied_129 (by decide) ?_
        exact Vx.forget (ls' := [some (vR (some x0)), some (vL x1), none, some (vL n17), none, some (vI (x5 + 1)), some (vI x6), some (vI (x7 + 1)), none, none]) (And.intro rfl (And.intro rfl (And.intro rfl (And.intro rfl (And.intro rfl (And.intro rfl trivial)))))) hh
    · have hh := hh.2 hc96
      refine rr_goto (pc' := 126) dX1_applied_99 (by decide) ?_
      obtain ⟨hz20, hh⟩ := hh
      refine rr_iinc (ls' := [some (vR (some x0)), some (vL x1), none, some (vL x3), none, some (vI x5), some (vI x6), some (vI (x7 + 1)), some (vI x8), some (vI x9)]) dX1_applied_126 rfl rfl (by decide) (fun _ z => by cases z) hz20 rfl ?_
      refine rr_goto (pc' := 23) dX1_applied_129 (by decide) ?_
      exact Vx.forget (ls' := [some (vR (some x0)), some (vL x1), none, some (vL x3), none, some (vI x5), some (vI x6), some (vI (x7 + 1)), none, none]) (And.intro rfl (And.intro rfl (And.intro rfl (And.intro rfl (And.intro rfl (And.intro rfl trivial)))))) hh
theorem dX3_init_0 : decode cX3_init 0 = .ok (.aload_n 0, 1) := by decide +kernel
theorem dX3_init_1 : decode cX3_init 1 = .ok (.invokespecial 1, 3) := by decide +kernel
theorem dX3_init_4 : decode cX3_init 4 = .ok (.aload_n 0, 1) := by decide +kernel
theorem dX3_init_5 : decode cX3_init 5 = .ok (.iload_n 1, 1) := by decide +kernel
theorem dX3_init_6 : decode cX3_init 6 = .ok (.putfield 7, 3) := by decide +kernel
theorem dX3_init_9 : decode cX3_init 9 = .ok (.aload_n 0, 1) := by decide +kernel
theorem dX3_init_10 : decode cX3_init 10 = .ok (.iload_n 2, 1) := by decide +kernel
theorem dX3_init_11 : decode cX3_init 11 = .ok (.putfield 13, 3) := by decide +kernel
theorem dX3_init_14 : decode cX3_init 14 = .ok (.aload_n 0, 1) := by decide +kernel
theorem dX3_init_15 : decode cX3_init 15 = .ok (.lload_n 3, 1) := by decide +kernel
theorem dX3_init_16 : decode cX3_init 16 = .ok (.putfield 16, 3) := by decide +kernel
theorem dX3_init_19 : decode cX3_init 19 = .ok (.aload_n 0, 1) := by decide +kernel
theorem dX3_init_20 : decode cX3_init 20 = .ok (.lload 5, 2) := by decide +kernel
theorem dX3_init_22 : decode cX3_init 22 = .ok (.putfield 20, 3) := by decide +kernel
theorem dX3_init_25 : decode cX3_init 25 = .ok (.return_, 1) := by decide +kernel
set_option maxRecDepth 100000 in
theorem B_X3_init_0 {d : Nat} {h : AbH} {K : Option AbV → AbH → Prop} {x0 : Nat} {x1 : Int} {x2 : Int} {x3 : Int} {x5 : Int} (hh : wpP h (some x0) 2 0 (vI x1) (fun h1 => wpP h1 (some x0) 2 1 (vI x2) (fun h2 => wpP h2 (some x0) 2 2 (vL x3) (fun h3 => wpP h3 (some x0) 2 3 (vL x5) (fun h4 => K none h4))))) : Vx (d + 1) m_X3_init 0 0 0 [some (vR (some x0)), some (vI x1), some (vI x2), some (vL x3), none, some (vL x5), none] [] h K := by
  refine rr_aload_n dX3_init_0 rfl rfl ?_
  refine rr_objInit dX3_init_1 rfl q_405 q_23 q_24 (by decide) ?_
  refine rr_aload_n dX3_init_4 rfl rfl ?_
  refine rr_iload_n dX3_init_5 rfl rfl ?_
  refine rr_putF cf_X3 (j := 0) (by decide) dX3_init_6 rfl q_406 rfl rfl rfl (fty := .int) (by decide +kernel) rfl rfl hh (fun h1 hh => ?_)
  refine rr_aload_n dX3_init_9 rfl rfl ?_
  refine rr_iload_n dX3_init_10 rfl rfl ?_
  refine rr_putF cf_X3 (j := 1) (by decide) dX3_init_11 rfl q_409 rfl rfl rfl (fty := .int) (by decide +kernel) rfl rfl hh (fun h2 hh => ?_)
  refine rr_aload_n dX3_init_14 rfl rfl ?_
  refine rr_lload_n dX3_init_15 rfl rfl ?_
  refine rr_putF cf_X3 (j := 2) (by decide) dX3_init_16 rfl q_413 rfl rfl rfl (fty := .long) (by decide +kernel) rfl rfl hh (fun h3 hh => ?_)
  refine rr_aload_n dX3_init_19 rfl rfl ?_
  refine rr_lload dX3_init_20 rfl rfl ?_
  refine rr_putF cf_X3 (j := 3) (by decide) dX3_init_22 rfl q_416 rfl rfl rfl (fty := .long) (by decide +kernel) rfl rfl hh (fun h4 hh => ?_)
  exact rr_vret dX3_init_25 rfl hh
theorem dX4_init_0 : decode cX4_init 0 = .ok (.aload_n 0, 1) := by decide +kernel
theorem dX4_init_1 : decode cX4_init 1 = .ok (.invokespecial 3, 3) := by decide +kernel
theorem dX4_init_4 : decode cX4_init 4 = .ok (.aload_n 0, 1) := by decide +kernel
theorem dX4_init_5 : decode cX4_init 5 = .ok (.bipush 8, 2) := by decide +kernel
theorem dX4_init_7 : decode cX4_init 7 = .ok (.anewarray 9, 3) := by decide +kernel
theorem dX4_init_10 : decode cX4_init 10 = .ok (.putfield 11, 3) := by decide +kernel
theorem dX4_init_13 : decode cX4_init 13 = .ok (.aload_n 0, 1) := by decide +kernel
theorem dX4_init_14 : decode cX4_init 14 = .ok (.iconst 0, 1) := by decide +kernel
theorem dX4_init_15 : decode cX4_init 15 = .ok (.putfield 17, 3) := by decide +kernel
theorem dX4_init_18 : decode cX4_init 18 = .ok (.return_, 1) := by decide +kernel
set_option maxRecDepth 100000 in
theorem B_X4_init_0 {d : Nat} {h : AbH} {K : Option AbV → AbH → Prop} {x0 : Nat} (hh : ∀ q1 : Nat, ab_new h q1 → ∀ h2 : AbH, h2 = hsR h q1 (7, 8, fun _ => none) → wpP h2 (some x0) 3 0 (vR (some q1)) (fun h5 => wpP h5 (some x0) 3 1 (vI 0) (fun h6 => K none h6))) : Vx (d + 1) m_X4_init 1 8 0 [some (vR (some x0))] [] h K := by
  refine rr_aload_n dX4_init_0 rfl rfl ?_
  refine rr_objInit dX4_init_1 rfl q_64 q_23 q_24 (by decide) ?_
  refine rr_aload_n dX4_init_4 rfl rfl ?_
  refine rr_bipush dX4_init_5 rfl ⟨by decide, by decide⟩ rfl ?_
  refine rr_newR (bc' := 0) (bs' := 0) (n := 8) 7 (Or.inr (Or.inr rfl)) dX4_init_7 rfl q_65 rfl (by decide) (by decide) (by decide) (fun q1 hz => ?_)
  have hh := hh q1 hz _ rfl
  generalize hsR h q1 (7, 8, fun _ => none) = h2 at hh ⊢
  refine rr_putF cf_X4 (j := 0) (by decide) dX4_init_10 rfl q_67 rfl rfl rfl (fty := .array (.object "LoanLayers$World")) (by decide +kernel) (by first | rfl | exact rn_r _ _ (by first | exact Or.inl ⟨_, rfl⟩ | exact Or.inr ⟨_, rfl⟩)) (by first | rfl | exact rf_r _ _ (by first | exact Or.inl ⟨_, rfl⟩ | exact Or.inr ⟨_, rfl⟩)) hh (fun h5 hh => ?_)
  refine rr_aload_n dX4_init_13 rfl rfl ?_
  refine rr_iconst dX4_init_14 rfl ⟨by decide, by decide⟩ ?_
  refine rr_put cf_X4 (j := 1) (by decide) dX4_init_15 rfl q_68 rfl (fty := .int) (by decide +kernel) rfl rfl hh (fun h6 hh => ?_)
  exact rr_vret dX4_init_18 rfl hh
theorem dX4_add_0 : decode cX4_add 0 = .ok (.aload_n 0, 1) := by decide +kernel
theorem dX4_add_1 : decode cX4_add 1 = .ok (.getfield 17, 3) := by decide +kernel
theorem dX4_add_4 : decode cX4_add 4 = .ok (.aload_n 0, 1) := by decide +kernel
theorem dX4_add_5 : decode cX4_add 5 = .ok (.getfield 11, 3) := by decide +kernel
theorem dX4_add_8 : decode cX4_add 8 = .ok (.arraylength, 1) := by decide +kernel
theorem dX4_add_9 : decode cX4_add 9 = .ok (.if_icmp .lt 45, 3) := by decide +kernel
theorem dX4_add_12 : decode cX4_add 12 = .ok (.iconst 1, 1) := by decide +kernel
theorem dX4_add_13 : decode cX4_add 13 = .ok (.istore_n 2, 1) := by decide +kernel
theorem dX4_add_14 : decode cX4_add 14 = .ok (.iload_n 2, 1) := by decide +kernel
theorem dX4_add_15 : decode cX4_add 15 = .ok (.aload_n 0, 1) := by decide +kernel
theorem dX4_add_16 : decode cX4_add 16 = .ok (.getfield 11, 3) := by decide +kernel
theorem dX4_add_19 : decode cX4_add 19 = .ok (.arraylength, 1) := by decide +kernel
theorem dX4_add_20 : decode cX4_add 20 = .ok (.if_icmp .ge 23, 3) := by decide +kernel
theorem dX4_add_23 : decode cX4_add 23 = .ok (.aload_n 0, 1) := by decide +kernel
theorem dX4_add_24 : decode cX4_add 24 = .ok (.getfield 11, 3) := by decide +kernel
theorem dX4_add_27 : decode cX4_add 27 = .ok (.iload_n 2, 1) := by decide +kernel
theorem dX4_add_28 : decode cX4_add 28 = .ok (.iconst 1, 1) := by decide +kernel
theorem dX4_add_29 : decode cX4_add 29 = .ok (.isub, 1) := by decide +kernel
theorem dX4_add_30 : decode cX4_add 30 = .ok (.aload_n 0, 1) := by decide +kernel
theorem dX4_add_31 : decode cX4_add 31 = .ok (.getfield 11, 3) := by decide +kernel
theorem dX4_add_34 : decode cX4_add 34 = .ok (.iload_n 2, 1) := by decide +kernel
theorem dX4_add_35 : decode cX4_add 35 = .ok (.aaload, 1) := by decide +kernel
theorem dX4_add_36 : decode cX4_add 36 = .ok (.aastore, 1) := by decide +kernel
theorem dX4_add_37 : decode cX4_add 37 = .ok (.iinc 2 1, 3) := by decide +kernel
theorem dX4_add_40 : decode cX4_add 40 = .ok (.goto (-26), 3) := by decide +kernel
theorem dX4_add_43 : decode cX4_add 43 = .ok (.aload_n 0, 1) := by decide +kernel
theorem dX4_add_44 : decode cX4_add 44 = .ok (.aload_n 0, 1) := by decide +kernel
theorem dX4_add_45 : decode cX4_add 45 = .ok (.getfield 11, 3) := by decide +kernel
theorem dX4_add_48 : decode cX4_add 48 = .ok (.arraylength, 1) := by decide +kernel
theorem dX4_add_49 : decode cX4_add 49 = .ok (.iconst 1, 1) := by decide +kernel
theorem dX4_add_50 : decode cX4_add 50 = .ok (.isub, 1) := by decide +kernel
theorem dX4_add_51 : decode cX4_add 51 = .ok (.putfield 17, 3) := by decide +kernel
theorem dX4_add_54 : decode cX4_add 54 = .ok (.aload_n 0, 1) := by decide +kernel
theorem dX4_add_55 : decode cX4_add 55 = .ok (.getfield 17, 3) := by decide +kernel
theorem dX4_add_58 : decode cX4_add 58 = .ok (.ifCond .lt 13, 3) := by decide +kernel
theorem dX4_add_61 : decode cX4_add 61 = .ok (.aload_n 0, 1) := by decide +kernel
theorem dX4_add_62 : decode cX4_add 62 = .ok (.getfield 11, 3) := by decide +kernel
theorem dX4_add_65 : decode cX4_add 65 = .ok (.aload_n 0, 1) := by decide +kernel
theorem dX4_add_66 : decode cX4_add 66 = .ok (.getfield 17, 3) := by decide +kernel
theorem dX4_add_69 : decode cX4_add 69 = .ok (.aload_n 1, 1) := by decide +kernel
theorem dX4_add_70 : decode cX4_add 70 = .ok (.aastore, 1) := by decide +kernel
theorem dX4_add_71 : decode cX4_add 71 = .ok (.aload_n 0, 1) := by decide +kernel
theorem dX4_add_72 : decode cX4_add 72 = .ok (.dup, 1) := by decide +kernel
theorem dX4_add_73 : decode cX4_add 73 = .ok (.getfield 17, 3) := by decide +kernel
theorem dX4_add_76 : decode cX4_add 76 = .ok (.iconst 1, 1) := by decide +kernel
theorem dX4_add_77 : decode cX4_add 77 = .ok (.iadd, 1) := by decide +kernel
theorem dX4_add_78 : decode cX4_add 78 = .ok (.putfield 17, 3) := by decide +kernel
theorem dX4_add_81 : decode cX4_add 81 = .ok (.return_, 1) := by decide +kernel
set_option maxRecDepth 100000 in
theorem B_X4_add_0 {d : Nat} {h : AbH} {K : Option AbV → AbH → Prop} {x0 : Nat} {x1 : Option Nat} (hh : wpGI h (some x0) 3 1 (fun n1 => wpGR h (some x0) 3 0 (fun r2 => wpNR h r2 (fun n3 => ((n1 < n3 → wpGI h (some x0) 3 1 (fun n4 => ((n4 < 0 → wpGI h (some x0) 3 1 (fun n5 => in32 (n5 + 1) ∧ wpP h (some x0) 3 1 (vI (n5 + 1)) (fun h7 => K none h7))) ∧ (¬ (n4 < 0) → wpGR h (some x0) 3 0 (fun r8 => wpGI h (some x0) 3 1 (fun n9 => wpSR h r8 n9 x1 (fun h10 => wpGI h10 (some x0) 3 1 (fun n11 => in32 (n11 + 1) ∧ wpP h10 (some x0) 3 1 (vI (n11 + 1)) (fun h13 => K none h13))))))))) ∧ (¬ (n1 < n3) → Vx (d + 1) m_X4_add 0 0 14 [some (vR (some x0)), some (vR x1), some (vI 1)] [] h K)))))) : Vx (d + 1) m_X4_add 0 0 0 [some (vR (some x0)), some (vR x1)] [] h K := by
  refine Vx.pad 1 [some (vR (some x0)), some (vR x1), none] rfl ?_
  refine rr_aload_n dX4_add_0 rfl rfl ?_
  refine rr_getI cf_X4 (j := 1) (by decide) dX4_add_1 rfl q_68 hh (fun n1 hh => ?_)
  refine rr_aload_n dX4_add_4 rfl rfl ?_
  refine rr_getR cf_X4 (j := 0) (by decide) dX4_add_5 rfl q_67 hh (fun r2 hh => ?_)
  refine rr_alenR dX4_add_8 rfl hh (fun n3 hh => ?_)
  refine rr_icmp_lt (tgt := 54) dX4_add_9 rfl (by decide) (fun hc9 => ?_) (fun hc9 => ?_)
  · have hh := hh.1 hc9
    refine rr_aload_n dX4_add_54 rfl rfl ?_
    refine rr_getI cf_X4 (j := 1) (by decide) dX4_add_55 rfl q_68 hh (fun n4 hh => ?_)
    refine rr_if_lt (tgt := 71) dX4_add_58 rfl (by decide) (fun hc58 => ?_) (fun hc58 => ?_)
    · have hh := hh.1 hc58
      refine rr_aload_n dX4_add_71 rfl rfl ?_
      refine rr_dup dX4_add_72 rfl rfl ?_
      refine rr_getI cf_X4 (j := 1) (by decide) dX4_add_73 rfl q_68 hh (fun n5 hh => ?_)
      refine rr_iconst dX4_add_76 rfl ⟨by decide, by decide⟩ ?_
      obtain ⟨hz6, hh⟩ := hh
      refine rr_iadd dX4_add_77 rfl hz6 ?_
      refine rr_put cf_X4 (j := 1) (by decide) dX4_add_78 rfl q_68 rfl (fty := .int) (by decide +kernel) rfl rfl hh (fun h7 hh => ?_)
      exact rr_vret dX4_add_81 rfl hh
    · have hh := hh.2 hc58
      refine rr_aload_n dX4_add_61 rfl rfl ?_
      refine rr_getR cf_X4 (j := 0) (by decide) dX4_add_62 rfl q_67 hh (fun r8 hh => ?_)
      refine rr_aload_n dX4_add_65 rfl rfl ?_
      refine rr_getI cf_X4 (j := 1) (by decide) dX4_add_66 rfl q_68 hh (fun n9 hh => ?_)
      refine rr_aload_n dX4_add_69 rfl rfl ?_
      refine rr_aast dX4_add_70 rfl hh (fun h10 hh => ?_)
      refine rr_aload_n dX4_add_71 rfl rfl ?_
      refine rr_dup dX4_add_72 rfl rfl ?_
      refine rr_getI cf_X4 (j := 1) (by decide) dX4_add_73 rfl q_68 hh (fun n11 hh => ?_)
      refine rr_iconst dX4_add_76 rfl ⟨by decide, by decide⟩ ?_
      obtain ⟨hz12, hh⟩ := hh
      refine rr_iadd dX4_add_77 rfl hz12 ?_
      refine rr_put cf_X4 (j := 1) (by decide) dX4_add_78 rfl q_68 rfl (fty := .int) (by decide +kernel) rfl rfl hh (fun h13 hh => ?_)
      exact rr_vret dX4_add_81 rfl hh
  · have hh := hh.2 hc9
    refine rr_iconst dX4_add_12 rfl ⟨by decide, by decide⟩ ?_
    refine rr_istore_n (ls' := [some (vR (some x0)), some (vR x1), some (vI 1)]) dX4_add_13 rfl (by decide) (fun _ z => by cases z) rfl ?_
    exact hh
set_option maxRecDepth 100000 in
theorem B_X4_add_14 {d : Nat} {h : AbH} {K : Option AbV → AbH → Prop} {x0 : Nat} {x1 : Option Nat} {x2 : Int} {bc bs : Nat} (hh : wpGR h (some x0) 3 0 (fun r1 => wpNR h r1 (fun n2 => ((n2 ≤ x2 → wpGR h (some x0) 3 0 (fun r3 => wpNR h r3 (fun n4 => in32 (n4 - 1) ∧ wpP h (some x0) 3 1 (vI (n4 - 1)) (fun h6 => wpGI h6 (some x0) 3 1 (fun n7 => ((n7 < 0 → wpGI h6 (some x0) 3 1 (fun n8 => in32 (n8 + 1) ∧ wpP h6 (some x0) 3 1 (vI (n8 + 1)) (fun h10 => K none h10))) ∧ (¬ (n7 < 0) → wpGR h6 (some x0) 3 0 (fun r11 => wpGI h6 (some x0) 3 1 (fun n12 => wpSR h6 r11 n12 x1 (fun h13 => wpGI h13 (some x0) 3 1 (fun n14 => in32 (n14 + 1) ∧ wpP h13 (some x0) 3 1 (vI (n14 + 1)) (fun h16 => K none h16)))))))))))) ∧ (¬ (n2 ≤ x2) → wpGR h (some x0) 3 0 (fun r17 => in32 (x2 - 1) ∧ wpGR h (some x0) 3 0 (fun r19 => wpLR h r19 x2 (fun r20 => wpSR h r17 (x2 - 1) r20 (fun h21 => in32 (x2 + 1) ∧ Vx (d + 1) m_X4_add bc bs 14 [some (vR (some x0)), some (vR x1), some (vI (x2 + 1))] [] h21 K))))))))) : Vx (d + 1) m_X4_add bc bs 14 [some (vR (some x0)), some (vR x1), some (vI x2)] [] h K := by
  refine rr_iload_n dX4_add_14 rfl rfl ?_
  refine rr_aload_n dX4_add_15 rfl rfl ?_
  refine rr_getR cf_X4 (j := 0) (by decide) dX4_add_16 rfl q_67 hh (fun r1 hh => ?_)
  refine rr_alenR dX4_add_19 rfl hh (fun n2 hh => ?_)
  refine rr_icmp_ge (tgt := 43) dX4_add_20 rfl (by decide) (fun hc20 => ?_) (fun hc20 => ?_)
  · have hh := hh.1 hc20
    refine rr_aload_n dX4_add_43 rfl rfl ?_
    refine rr_aload_n dX4_add_44 rfl rfl ?_
    refine rr_getR cf_X4 (j := 0) (by decide) dX4_add_45 rfl q_67 hh (fun r3 hh => ?_)
    refine rr_alenR dX4_add_48 rfl hh (fun n4 hh => ?_)
    refine rr_iconst dX4_add_49 rfl ⟨by decide, by decide⟩ ?_
    obtain ⟨hz5, hh⟩ := hh
    refine rr_isub dX4_add_50 rfl hz5 ?_
    refine rr_put cf_X4 (j := 1) (by decide) dX4_add_51 rfl q_68 rfl (fty := .int) (by decide +kernel) rfl rfl hh (fun h6 hh => ?_)
    refine rr_aload_n dX4_add_54 rfl rfl ?_
    refine rr_getI cf_X4 (j := 1) (by decide) dX4_add_55 rfl q_68 hh (fun n7 hh => ?_)
    refine rr_if_lt (tgt := 71) dX4_add_58 rfl (by decide) (fun hc58 => ?_) (fun hc58 => ?_)
    · have hh := hh.1 hc58
      refine rr_aload_n dX4_add_71 rfl rfl ?_
      refine rr_dup dX4_add_72 rfl rfl ?_
      refine rr_getI cf_X4 (j := 1) (by decide) dX4_add_73 rfl q_68 hh (fun n8 hh => ?_)
      refine rr_iconst dX4_add_76 rfl ⟨by decide, by decide⟩ ?_
      obtain ⟨hz9, hh⟩ := hh
      refine rr_iadd dX4_add_77 rfl hz9 ?_
      refine rr_put cf_X4 (j := 1) (by decide) dX4_add_78 rfl q_68 rfl (fty := .int) (by decide +kernel) rfl rfl hh (fun h10 hh => ?_)
      exact rr_vret dX4_add_81 rfl hh
    · have hh := hh.2 hc58
      refine rr_aload_n dX4_add_61 rfl rfl ?_
      refine rr_getR cf_X4 (j := 0) (by decide) dX4_add_62 rfl q_67 hh (fun r11 hh => ?_)
      refine rr_aload_n dX4_add_65 rfl rfl ?_
      refine rr_getI cf_X4 (j := 1) (by decide) dX4_add_66 rfl q_68 hh (fun n12 hh => ?_)
      refine rr_aload_n dX4_add_69 rfl rfl ?_
      refine rr_aast dX4_add_70 rfl hh (fun h13 hh => ?_)
      refine rr_aload_n dX4_add_71 rfl rfl ?_
      refine rr_dup dX4_add_72 rfl rfl ?_
      refine rr_getI cf_X4 (j := 1) (by decide) dX4_add_73 rfl q_68 hh (fun n14 hh => ?_)
      refine rr_iconst dX4_add_76 rfl ⟨by decide, by decide⟩ ?_
      obtain ⟨hz15, hh⟩ := hh
      refine rr_iadd dX4_add_77 rfl hz15 ?_
      refine rr_put cf_X4 (j := 1) (by decide) dX4_add_78 rfl q_68 rfl (fty := .int) (by decide +kernel) rfl rfl hh (fun h16 hh => ?_)
      exact rr_vret dX4_add_81 rfl hh
  · have hh := hh.2 hc20
    refine rr_aload_n dX4_add_23 rfl rfl ?_
    refine rr_getR cf_X4 (j := 0) (by decide) dX4_add_24 rfl q_67 hh (fun r17 hh => ?_)
    refine rr_iload_n dX4_add_27 rfl rfl ?_
    refine rr_iconst dX4_add_28 rfl ⟨by decide, by decide⟩ ?_
    obtain ⟨hz18, hh⟩ := hh
    refine rr_isub dX4_add_29 rfl hz18 ?_
    refine rr_aload_n dX4_add_30 rfl rfl ?_
    refine rr_getR cf_X4 (j := 0) (by decide) dX4_add_31 rfl q_67 hh (fun r19 hh => ?_)
    refine rr_iload_n dX4_add_34 rfl rfl ?_
    refine rr_aald dX4_add_35 rfl hh (fun r20 hh => ?_)
    refine rr_aast dX4_add_36 rfl hh (fun h21 hh => ?_)
    obtain ⟨hz22, hh⟩ := hh
    refine rr_iinc (ls' := [some (vR (some x0)), some (vR x1), some (vI (x2 + 1))]) dX4_add_37 rfl rfl (by decide) (fun _ z => by cases z) hz22 rfl ?_
    refine rr_goto (pc' := 14) dX4_add_40 (by decide) ?_
    exact hh
theorem dX4_latest_0 : decode cX4_latest 0 = .ok (.aload_n 0, 1) := by decide +kernel
theorem dX4_latest_1 : decode cX4_latest 1 = .ok (.getfield 17, 3) := by decide +kernel
theorem dX4_latest_4 : decode cX4_latest 4 = .ok (.iconst 1, 1) := by decide +kernel
theorem dX4_latest_5 : decode cX4_latest 5 = .ok (.aload_n 0, 1) := by decide +kernel
theorem dX4_latest_6 : decode cX4_latest 6 = .ok (.getfield 11, 3) := by decide +kernel
theorem dX4_latest_9 : decode cX4_latest 9 = .ok (.arraylength, 1) := by decide +kernel
theorem dX4_latest_10 : decode cX4_latest 10 = .ok (.invokestatic 21, 3) := by decide +kernel
theorem dX4_latest_13 : decode cX4_latest 13 = .ok (.ifCond .eq 17, 3) := by decide +kernel
theorem dX4_latest_16 : decode cX4_latest 16 = .ok (.aload_n 0, 1) := by decide +kernel
theorem dX4_latest_17 : decode cX4_latest 17 = .ok (.getfield 11, 3) := by decide +kernel
theorem dX4_latest_20 : decode cX4_latest 20 = .ok (.aload_n 0, 1) := by decide +kernel
theorem dX4_latest_21 : decode cX4_latest 21 = .ok (.getfield 17, 3) := by decide +kernel
theorem dX4_latest_24 : decode cX4_latest 24 = .ok (.iconst 1, 1) := by decide +kernel
theorem dX4_latest_25 : decode cX4_latest 25 = .ok (.isub, 1) := by decide +kernel
theorem dX4_latest_26 : decode cX4_latest 26 = .ok (.aaload, 1) := by decide +kernel
theorem dX4_latest_27 : decode cX4_latest 27 = .ok (.goto 4, 3) := by decide +kernel
theorem dX4_latest_30 : decode cX4_latest 30 = .ok (.aconst_null, 1) := by decide +kernel
theorem dX4_latest_31 : decode cX4_latest 31 = .ok (.areturn, 1) := by decide +kernel
set_option maxRecDepth 100000 in
theorem B_X4_latest_0 {d : Nat} {h : AbH} {K : Option AbV → AbH → Prop} {x0 : Nat} (hh : wpGI h (some x0) 3 1 (fun n1 => wpGR h (some x0) 3 0 (fun r2 => wpNR h r2 (fun n3 => Vm d m_X9_within [vI n1, vI 1, vI n3] h (kI (fun n5 h4 => ((n5 = 0 → K (some (vR none)) h4) ∧ (¬ (n5 = 0) → wpGR h4 (some x0) 3 0 (fun r6 => wpGI h4 (some x0) 3 1 (fun n7 => in32 (n7 - 1) ∧ wpLR h4 r6 (n7 - 1) (fun r9 => K (some (vR r9)) h4))))))))))) : Vx (d + 1) m_X4_latest 0 0 0 [some (vR (some x0))] [] h K := by
  refine rr_aload_n dX4_latest_0 rfl rfl ?_
  refine rr_getI cf_X4 (j := 1) (by decide) dX4_latest_1 rfl q_68 hh (fun n1 hh => ?_)
  refine rr_iconst dX4_latest_4 rfl ⟨by decide, by decide⟩ ?_
  refine rr_aload_n dX4_latest_5 rfl rfl ?_
  refine rr_getR cf_X4 (j := 0) (by decide) dX4_latest_6 rfl q_67 hh (fun r2 hh => ?_)
  refine rr_alenR dX4_latest_9 rfl hh (fun n3 hh => ?_)
  refine rr_callSN (bc' := 0) (bs' := 0) (av := [vI n1, vI 1, vI n3]) (st := []) mf_X9_within dX4_latest_10 rfl qn_8 q_197 rfl (by decide) (Nat.le_refl _) (Nat.le_refl _) hh (rr_kI fun n5 h4 hh => ?_)
  refine rr_if_eq (tgt := 30) dX4_latest_13 rfl (by decide) (fun hc13 => ?_) (fun hc13 => ?_)
  · have hh := hh.1 hc13
    refine rr_null dX4_latest_30 rfl ?_
    exact rr_aret dX4_latest_31 rfl (Or.inl ⟨_, rfl⟩) hh
  · have hh := hh.2 hc13
    refine rr_aload_n dX4_latest_16 rfl rfl ?_
    refine rr_getR cf_X4 (j := 0) (by decide) dX4_latest_17 rfl q_67 hh (fun r6 hh => ?_)
    refine rr_aload_n dX4_latest_20 rfl rfl ?_
    refine rr_getI cf_X4 (j := 1) (by decide) dX4_latest_21 rfl q_68 hh (fun n7 hh => ?_)
    refine rr_iconst dX4_latest_24 rfl ⟨by decide, by decide⟩ ?_
    obtain ⟨hz8, hh⟩ := hh
    refine rr_isub dX4_latest_25 rfl hz8 ?_
    refine rr_aald dX4_latest_26 rfl hh (fun r9 hh => ?_)
    refine rr_goto (pc' := 31) dX4_latest_27 (by decide) ?_
    exact rr_aret dX4_latest_31 rfl (Or.inl ⟨_, rfl⟩) hh
theorem dX4_forgetLatest_0 : decode cX4_forgetLatest 0 = .ok (.aload_n 0, 1) := by decide +kernel
theorem dX4_forgetLatest_1 : decode cX4_forgetLatest 1 = .ok (.getfield 17, 3) := by decide +kernel
theorem dX4_forgetLatest_4 : decode cX4_forgetLatest 4 = .ok (.ifCond .le 13, 3) := by decide +kernel
theorem dX4_forgetLatest_7 : decode cX4_forgetLatest 7 = .ok (.aload_n 0, 1) := by decide +kernel
theorem dX4_forgetLatest_8 : decode cX4_forgetLatest 8 = .ok (.dup, 1) := by decide +kernel
theorem dX4_forgetLatest_9 : decode cX4_forgetLatest 9 = .ok (.getfield 17, 3) := by decide +kernel
theorem dX4_forgetLatest_12 : decode cX4_forgetLatest 12 = .ok (.iconst 1, 1) := by decide +kernel
theorem dX4_forgetLatest_13 : decode cX4_forgetLatest 13 = .ok (.isub, 1) := by decide +kernel
theorem dX4_forgetLatest_14 : decode cX4_forgetLatest 14 = .ok (.putfield 17, 3) := by decide +kernel
theorem dX4_forgetLatest_17 : decode cX4_forgetLatest 17 = .ok (.return_, 1) := by decide +kernel
set_option maxRecDepth 100000 in
theorem B_X4_forgetLatest_0 {d : Nat} {h : AbH} {K : Option AbV → AbH → Prop} {x0 : Nat} (hh : wpGI h (some x0) 3 1 (fun n1 => ((n1 ≤ 0 → K none h) ∧ (¬ (n1 ≤ 0) → wpGI h (some x0) 3 1 (fun n2 => in32 (n2 - 1) ∧ wpP h (some x0) 3 1 (vI (n2 - 1)) (fun h4 => K none h4)))))) : Vx (d + 1) m_X4_forgetLatest 0 0 0 [some (vR (some x0))] [] h K := by
  refine rr_aload_n dX4_forgetLatest_0 rfl rfl ?_
  refine rr_getI cf_X4 (j := 1) (by decide) dX4_forgetLatest_1 rfl q_68 hh (fun n1 hh => ?_)
  refine rr_if_le (tgt := 17) dX4_forgetLatest_4 rfl (by decide) (fun hc4 => ?_) (fun hc4 => ?_)
  · have hh := hh.1 hc4
    exact rr_vret dX4_forgetLatest_17 rfl hh
  · have hh := hh.2 hc4
    refine rr_aload_n dX4_forgetLatest_7 rfl rfl ?_
    refine rr_dup dX4_forgetLatest_8 rfl rfl ?_
    refine rr_getI cf_X4 (j := 1) (by decide) dX4_forgetLatest_9 rfl q_68 hh (fun n2 hh => ?_)
    refine rr_iconst dX4_forgetLatest_12 rfl ⟨by decide, by decide⟩ ?_
    obtain ⟨hz3, hh⟩ := hh
    refine rr_isub dX4_forgetLatest_13 rfl hz3 ?_
    refine rr_put cf_X4 (j := 1) (by decide) dX4_forgetLatest_14 rfl q_68 rfl (fty := .int) (by decide +kernel) rfl rfl hh (fun h4 hh => ?_)
    exact rr_vret dX4_forgetLatest_17 rfl hh
theorem dX4_clear_0 : decode cX4_clear 0 = .ok (.aload_n 0, 1) := by decide +kernel
theorem dX4_clear_1 : decode cX4_clear 1 = .ok (.iconst 0, 1) := by decide +kernel
theorem dX4_clear_2 : decode cX4_clear 2 = .ok (.putfield 17, 3) := by decide +kernel
theorem dX4_clear_5 : decode cX4_clear 5 = .ok (.return_, 1) := by decide +kernel
set_option maxRecDepth 100000 in
theorem B_X4_clear_0 {d : Nat} {h : AbH} {K : Option AbV → AbH → Prop} {x0 : Nat} (hh : wpP h (some x0) 3 1 (vI 0) (fun h1 => K none h1)) : Vx (d + 1) m_X4_clear 0 0 0 [some (vR (some x0))] [] h K := by
  refine rr_aload_n dX4_clear_0 rfl rfl ?_
  refine rr_iconst dX4_clear_1 rfl ⟨by decide, by decide⟩ ?_
  refine rr_put cf_X4 (j := 1) (by decide) dX4_clear_2 rfl q_68 rfl (fty := .int) (by decide +kernel) rfl rfl hh (fun h1 hh => ?_)
  exact rr_vret dX4_clear_5 rfl hh
