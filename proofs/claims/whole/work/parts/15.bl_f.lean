theorem dX10_windows_0 : decode cX10_windows 0 = .ok (.iconst 0, 1) := by decide +kernel
theorem dX10_windows_1 : decode cX10_windows 1 = .ok (.istore_n 2, 1) := by decide +kernel
theorem dX10_windows_2 : decode cX10_windows 2 = .ok (.aload_n 0, 1) := by decide +kernel
theorem dX10_windows_3 : decode cX10_windows 3 = .ok (.iload_n 1, 1) := by decide +kernel
theorem dX10_windows_4 : decode cX10_windows 4 = .ok (.iload_n 2, 1) := by decide +kernel
theorem dX10_windows_5 : decode cX10_windows 5 = .ok (.iconst 1, 1) := by decide +kernel
theorem dX10_windows_6 : decode cX10_windows 6 = .ok (.invokevirtual 200, 3) := by decide +kernel
theorem dX10_windows_9 : decode cX10_windows 9 = .ok (.iconst (-1), 1) := by decide +kernel
theorem dX10_windows_10 : decode cX10_windows 10 = .ok (.if_icmp .eq 9, 3) := by decide +kernel
theorem dX10_windows_13 : decode cX10_windows 13 = .ok (.iinc 2 1, 3) := by decide +kernel
theorem dX10_windows_16 : decode cX10_windows 16 = .ok (.goto (-14), 3) := by decide +kernel
theorem dX10_windows_19 : decode cX10_windows 19 = .ok (.iload_n 2, 1) := by decide +kernel
theorem dX10_windows_20 : decode cX10_windows 20 = .ok (.ireturn, 1) := by decide +kernel
set_option maxRecDepth 100000 in
theorem B_X10_windows_0 {d : Nat} {h : AbH} {K : Option AbV → AbH → Prop} {x0 : Nat} {x1 : Int} (hh : Vx (d + 1) m_X10_windows 0 0 2 [some (vR (some x0)), some (vI x1), some (vI 0)] [] h K) : Vx (d + 1) m_X10_windows 0 0 0 [some (vR (some x0)), some (vI x1)] [] h K := by
  refine Vx.pad 1 [some (vR (some x0)), some (vI x1), none] rfl ?_
  refine rr_iconst dX10_windows_0 rfl ⟨by decide, by decide⟩ ?_
  refine rr_istore_n (ls' := [some (vR (some x0)), some (vI x1), some (vI 0)]) dX10_windows_1 rfl (by decide) (fun _ z => by cases z) rfl ?_
  exact hh
set_option maxRecDepth 100000 in
theorem B_X10_windows_2 {d : Nat} {h : AbH} {K : Option AbV → AbH → Prop} {x0 : Nat} {x1 : Int} {x2 : Int} {bc bs : Nat} (hh : wpCV h (some x0) 9 (fun b4 => Vm d m_X10_windowOf [vR (some b4), vI x1, vI x2, vI 1] h (kI (fun n2 h1 => ((n2 = (-1) → K (some (vI x2)) h1) ∧ (¬ (n2 = (-1)) → in32 (x2 + 1) ∧ Vx (d + 1) m_X10_windows bc bs 2 [some (vR (some x0)), some (vI x1), some (vI (x2 + 1))] [] h1 K)))))) : Vx (d + 1) m_X10_windows bc bs 2 [some (vR (some x0)), some (vI x1), some (vI x2)] [] h K := by
  refine rr_aload_n dX10_windows_2 rfl rfl ?_
  refine rr_iload_n dX10_windows_3 rfl rfl ?_
  refine rr_iload_n dX10_windows_4 rfl rfl ?_
  refine rr_iconst dX10_windows_5 rfl ⟨by decide, by decide⟩ ?_
  refine rr_callW (bc' := bc) (bs' := bs) (q := (some x0)) (av := [vI x1, vI x2, vI 1]) (st := []) mf_X10_windowOf dX10_windows_6 rfl q_1043 q_1045 qs_54 ⟨_, _, rfl⟩ rfl (by decide) (Nat.le_refl _) (Nat.le_refl _) hh (rr_kI fun n2 h1 hh => ?_)
  refine rr_iconst dX10_windows_9 rfl ⟨by decide, by decide⟩ ?_
  refine rr_icmp_eq (tgt := 19) dX10_windows_10 rfl (by decide) (fun hc10 => ?_) (fun hc10 => ?_)
  · have hh := hh.1 hc10
    refine rr_iload_n dX10_windows_19 rfl rfl ?_
    exact rr_iret dX10_windows_20 rfl hh
  · have hh := hh.2 hc10
    obtain ⟨hz3, hh⟩ := hh
    refine rr_iinc (ls' := [some (vR (some x0)), some (vI x1), some (vI (x2 + 1))]) dX10_windows_13 rfl rfl (by decide) (fun _ z => by cases z) hz3 rfl ?_
    refine rr_goto (pc' := 2) dX10_windows_16 (by decide) ?_
    exact hh
theorem dX10_firstOf_0 : decode cX10_firstOf 0 = .ok (.aload_n 0, 1) := by decide +kernel
theorem dX10_firstOf_1 : decode cX10_firstOf 1 = .ok (.iload_n 1, 1) := by decide +kernel
theorem dX10_firstOf_2 : decode cX10_firstOf 2 = .ok (.iconst 0, 1) := by decide +kernel
theorem dX10_firstOf_3 : decode cX10_firstOf 3 = .ok (.iconst 1, 1) := by decide +kernel
theorem dX10_firstOf_4 : decode cX10_firstOf 4 = .ok (.invokevirtual 200, 3) := by decide +kernel
theorem dX10_firstOf_7 : decode cX10_firstOf 7 = .ok (.ireturn, 1) := by decide +kernel
set_option maxRecDepth 100000 in
theorem B_X10_firstOf_0 {d : Nat} {h : AbH} {K : Option AbV → AbH → Prop} {x0 : Nat} {x1 : Int} (hh : wpCV h (some x0) 9 (fun b3 => Vm d m_X10_windowOf [vR (some b3), vI x1, vI 0, vI 1] h (kI (fun n2 h1 => K (some (vI n2)) h1)))) : Vx (d + 1) m_X10_firstOf 0 0 0 [some (vR (some x0)), some (vI x1)] [] h K := by
  refine rr_aload_n dX10_firstOf_0 rfl rfl ?_
  refine rr_iload_n dX10_firstOf_1 rfl rfl ?_
  refine rr_iconst dX10_firstOf_2 rfl ⟨by decide, by decide⟩ ?_
  refine rr_iconst dX10_firstOf_3 rfl ⟨by decide, by decide⟩ ?_
  refine rr_callW (bc' := 0) (bs' := 0) (q := (some x0)) (av := [vI x1, vI 0, vI 1]) (st := []) mf_X10_windowOf dX10_firstOf_4 rfl q_1043 q_1045 qs_54 ⟨_, _, rfl⟩ rfl (by decide) (Nat.le_refl _) (Nat.le_refl _) hh (rr_kI fun n2 h1 hh => ?_)
  exact rr_iret dX10_firstOf_7 rfl hh
theorem dX10_lastOf_0 : decode cX10_lastOf 0 = .ok (.bipush 99, 2) := by decide +kernel
theorem dX10_lastOf_2 : decode cX10_lastOf 2 = .ok (.istore_n 2, 1) := by decide +kernel
theorem dX10_lastOf_3 : decode cX10_lastOf 3 = .ok (.iload_n 2, 1) := by decide +kernel
theorem dX10_lastOf_4 : decode cX10_lastOf 4 = .ok (.ifCond .lt 20, 3) := by decide +kernel
theorem dX10_lastOf_7 : decode cX10_lastOf 7 = .ok (.aload_n 0, 1) := by decide +kernel
theorem dX10_lastOf_8 : decode cX10_lastOf 8 = .ok (.iload_n 1, 1) := by decide +kernel
theorem dX10_lastOf_9 : decode cX10_lastOf 9 = .ok (.iload_n 2, 1) := by decide +kernel
theorem dX10_lastOf_10 : decode cX10_lastOf 10 = .ok (.invokevirtual 197, 3) := by decide +kernel
theorem dX10_lastOf_13 : decode cX10_lastOf 13 = .ok (.ifCond .eq 5, 3) := by decide +kernel
theorem dX10_lastOf_16 : decode cX10_lastOf 16 = .ok (.iload_n 2, 1) := by decide +kernel
theorem dX10_lastOf_17 : decode cX10_lastOf 17 = .ok (.ireturn, 1) := by decide +kernel
theorem dX10_lastOf_18 : decode cX10_lastOf 18 = .ok (.iinc 2 (-1), 3) := by decide +kernel
theorem dX10_lastOf_21 : decode cX10_lastOf 21 = .ok (.goto (-18), 3) := by decide +kernel
theorem dX10_lastOf_24 : decode cX10_lastOf 24 = .ok (.iconst (-1), 1) := by decide +kernel
theorem dX10_lastOf_25 : decode cX10_lastOf 25 = .ok (.ireturn, 1) := by decide +kernel
set_option maxRecDepth 100000 in
theorem B_X10_lastOf_0 {d : Nat} {h : AbH} {K : Option AbV → AbH → Prop} {x0 : Nat} {x1 : Int} (hh : Vx (d + 1) m_X10_lastOf 0 0 3 [some (vR (some x0)), some (vI x1), some (vI 99)] [] h K) : Vx (d + 1) m_X10_lastOf 0 0 0 [some (vR (some x0)), some (vI x1)] [] h K := by
  refine Vx.pad 1 [some (vR (some x0)), some (vI x1), none] rfl ?_
  refine rr_bipush dX10_lastOf_0 rfl ⟨by decide, by decide⟩ rfl ?_
  refine rr_istore_n (ls' := [some (vR (some x0)), some (vI x1), some (vI 99)]) dX10_lastOf_2 rfl (by decide) (fun _ z => by cases z) rfl ?_
  exact hh
set_option maxRecDepth 100000 in
theorem B_X10_lastOf_3 {d : Nat} {h : AbH} {K : Option AbV → AbH → Prop} {x0 : Nat} {x1 : Int} {x2 : Int} {bc bs : Nat} (hh : ((x2 < 0 → K (some (vI (-1))) h) ∧ (¬ (x2 < 0) → wpCV h (some x0) 9 (fun b4 => Vm d m_X10_fits [vR (some b4), vI x1, vI x2] h (kI (fun n2 h1 => ((n2 = 0 → in32 (x2 + (-1)) ∧ Vx (d + 1) m_X10_lastOf bc bs 3 [some (vR (some x0)), some (vI x1), some (vI (x2 + (-1)))] [] h1 K) ∧ (¬ (n2 = 0) → K (some (vI x2)) h1)))))))) : Vx (d + 1) m_X10_lastOf bc bs 3 [some (vR (some x0)), some (vI x1), some (vI x2)] [] h K := by
  refine rr_iload_n dX10_lastOf_3 rfl rfl ?_
  refine rr_if_lt (tgt := 24) dX10_lastOf_4 rfl (by decide) (fun hc4 => ?_) (fun hc4 => ?_)
  · have hh := hh.1 hc4
    refine rr_iconst dX10_lastOf_24 rfl ⟨by decide, by decide⟩ ?_
    exact rr_iret dX10_lastOf_25 rfl hh
  · have hh := hh.2 hc4
    refine rr_aload_n dX10_lastOf_7 rfl rfl ?_
    refine rr_iload_n dX10_lastOf_8 rfl rfl ?_
    refine rr_iload_n dX10_lastOf_9 rfl rfl ?_
    refine rr_callW (bc' := bc) (bs' := bs) (q := (some x0)) (av := [vI x1, vI x2]) (st := []) mf_X10_fits dX10_lastOf_10 rfl q_1047 q_1049 qs_55 ⟨_, _, rfl⟩ rfl (by decide) (Nat.le_refl _) (Nat.le_refl _) hh (rr_kI fun n2 h1 hh => ?_)
    refine rr_if_eq (tgt := 18) dX10_lastOf_13 rfl (by decide) (fun hc13 => ?_) (fun hc13 => ?_)
    · have hh := hh.1 hc13
      obtain ⟨hz3, hh⟩ := hh
      refine rr_iinc (ls' := [some (vR (some x0)), some (vI x1), some (vI (x2 + (-1)))]) dX10_lastOf_18 rfl rfl (by decide) (fun _ z => by cases z) hz3 rfl ?_
      refine rr_goto (pc' := 3) dX10_lastOf_21 (by decide) ?_
      exact hh
    · have hh := hh.2 hc13
      refine rr_iload_n dX10_lastOf_16 rfl rfl ?_
      exact rr_iret dX10_lastOf_17 rfl hh
theorem dX10_kind_0 : decode cX10_kind 0 = .ok (.aload_n 0, 1) := by decide +kernel
theorem dX10_kind_1 : decode cX10_kind 1 = .ok (.iload_n 1, 1) := by decide +kernel
theorem dX10_kind_2 : decode cX10_kind 2 = .ok (.invokevirtual 204, 3) := by decide +kernel
theorem dX10_kind_5 : decode cX10_kind 5 = .ok (.iconst (-1), 1) := by decide +kernel
theorem dX10_kind_6 : decode cX10_kind 6 = .ok (.if_icmp .ne 7, 3) := by decide +kernel
theorem dX10_kind_9 : decode cX10_kind 9 = .ok (.iconst 0, 1) := by decide +kernel
theorem dX10_kind_10 : decode cX10_kind 10 = .ok (.goto 19, 3) := by decide +kernel
theorem dX10_kind_13 : decode cX10_kind 13 = .ok (.aload_n 0, 1) := by decide +kernel
theorem dX10_kind_14 : decode cX10_kind 14 = .ok (.iload_n 1, 1) := by decide +kernel
theorem dX10_kind_15 : decode cX10_kind 15 = .ok (.iconst 1, 1) := by decide +kernel
theorem dX10_kind_16 : decode cX10_kind 16 = .ok (.iconst 1, 1) := by decide +kernel
theorem dX10_kind_17 : decode cX10_kind 17 = .ok (.invokevirtual 200, 3) := by decide +kernel
theorem dX10_kind_20 : decode cX10_kind 20 = .ok (.iconst (-1), 1) := by decide +kernel
theorem dX10_kind_21 : decode cX10_kind 21 = .ok (.if_icmp .ne 7, 3) := by decide +kernel
theorem dX10_kind_24 : decode cX10_kind 24 = .ok (.iconst 1, 1) := by decide +kernel
theorem dX10_kind_25 : decode cX10_kind 25 = .ok (.goto 4, 3) := by decide +kernel
theorem dX10_kind_28 : decode cX10_kind 28 = .ok (.iconst 2, 1) := by decide +kernel
theorem dX10_kind_29 : decode cX10_kind 29 = .ok (.ireturn, 1) := by decide +kernel
set_option maxRecDepth 100000 in
theorem B_X10_kind_0 {d : Nat} {h : AbH} {K : Option AbV → AbH → Prop} {x0 : Nat} {x1 : Int} (hh : wpCV h (some x0) 9 (fun b6 => Vm d m_X10_firstOf [vR (some b6), vI x1] h (kI (fun n2 h1 => ((n2 ≠ (-1) → wpCV h1 (some x0) 9 (fun b5 => Vm d m_X10_windowOf [vR (some b5), vI x1, vI 1, vI 1] h1 (kI (fun n4 h3 => ((n4 ≠ (-1) → K (some (vI 2)) h3) ∧ (¬ (n4 ≠ (-1)) → K (some (vI 1)) h3)))))) ∧ (¬ (n2 ≠ (-1)) → K (some (vI 0)) h1)))))) : Vx (d + 1) m_X10_kind 0 0 0 [some (vR (some x0)), some (vI x1)] [] h K := by
  refine rr_aload_n dX10_kind_0 rfl rfl ?_
  refine rr_iload_n dX10_kind_1 rfl rfl ?_
  refine rr_callW (bc' := 0) (bs' := 0) (q := (some x0)) (av := [vI x1]) (st := []) mf_X10_firstOf dX10_kind_2 rfl q_1039 q_1041 qs_53 ⟨_, _, rfl⟩ rfl (by decide) (Nat.le_refl _) (Nat.le_refl _) hh (rr_kI fun n2 h1 hh => ?_)
  refine rr_iconst dX10_kind_5 rfl ⟨by decide, by decide⟩ ?_
  refine rr_icmp_ne (tgt := 13) dX10_kind_6 rfl (by decide) (fun hc6 => ?_) (fun hc6 => ?_)
  · have hh := hh.1 hc6
    refine rr_aload_n dX10_kind_13 rfl rfl ?_
    refine rr_iload_n dX10_kind_14 rfl rfl ?_
    refine rr_iconst dX10_kind_15 rfl ⟨by decide, by decide⟩ ?_
    refine rr_iconst dX10_kind_16 rfl ⟨by decide, by decide⟩ ?_
    refine rr_callW (bc' := 0) (bs' := 0) (q := (some x0)) (av := [vI x1, vI 1, vI 1]) (st := []) mf_X10_windowOf dX10_kind_17 rfl q_1043 q_1045 qs_54 ⟨_, _, rfl⟩ rfl (by decide) (Nat.le_refl _) (Nat.le_refl _) hh (rr_kI fun n4 h3 hh => ?_)
    refine rr_iconst dX10_kind_20 rfl ⟨by decide, by decide⟩ ?_
    refine rr_icmp_ne (tgt := 28) dX10_kind_21 rfl (by decide) (fun hc21 => ?_) (fun hc21 => ?_)
    · have hh := hh.1 hc21
      refine rr_iconst dX10_kind_28 rfl ⟨by decide, by decide⟩ ?_
      exact rr_iret dX10_kind_29 rfl hh
    · have hh := hh.2 hc21
      refine rr_iconst dX10_kind_24 rfl ⟨by decide, by decide⟩ ?_
      refine rr_goto (pc' := 29) dX10_kind_25 (by decide) ?_
      exact rr_iret dX10_kind_29 rfl hh
  · have hh := hh.2 hc6
    refine rr_iconst dX10_kind_9 rfl ⟨by decide, by decide⟩ ?_
    refine rr_goto (pc' := 29) dX10_kind_10 (by decide) ?_
    exact rr_iret dX10_kind_29 rfl hh
theorem dX10_isOlder_0 : decode cX10_isOlder 0 = .ok (.aload_n 0, 1) := by decide +kernel
theorem dX10_isOlder_1 : decode cX10_isOlder 1 = .ok (.getfield 7, 3) := by decide +kernel
theorem dX10_isOlder_4 : decode cX10_isOlder 4 = .ok (.iload_n 1, 1) := by decide +kernel
theorem dX10_isOlder_5 : decode cX10_isOlder 5 = .ok (.invokestatic 128, 3) := by decide +kernel
theorem dX10_isOlder_8 : decode cX10_isOlder 8 = .ok (.iconst 1, 1) := by decide +kernel
theorem dX10_isOlder_9 : decode cX10_isOlder 9 = .ok (.iadd, 1) := by decide +kernel
theorem dX10_isOlder_10 : decode cX10_isOlder 10 = .ok (.iaload, 1) := by decide +kernel
theorem dX10_isOlder_11 : decode cX10_isOlder 11 = .ok (.aload_n 0, 1) := by decide +kernel
theorem dX10_isOlder_12 : decode cX10_isOlder 12 = .ok (.getfield 7, 3) := by decide +kernel
theorem dX10_isOlder_15 : decode cX10_isOlder 15 = .ok (.iload_n 2, 1) := by decide +kernel
theorem dX10_isOlder_16 : decode cX10_isOlder 16 = .ok (.invokestatic 128, 3) := by decide +kernel
theorem dX10_isOlder_19 : decode cX10_isOlder 19 = .ok (.iconst 1, 1) := by decide +kernel
theorem dX10_isOlder_20 : decode cX10_isOlder 20 = .ok (.iadd, 1) := by decide +kernel
theorem dX10_isOlder_21 : decode cX10_isOlder 21 = .ok (.iaload, 1) := by decide +kernel
theorem dX10_isOlder_22 : decode cX10_isOlder 22 = .ok (.if_icmp .ne 7, 3) := by decide +kernel
theorem dX10_isOlder_25 : decode cX10_isOlder 25 = .ok (.iconst 1, 1) := by decide +kernel
theorem dX10_isOlder_26 : decode cX10_isOlder 26 = .ok (.goto 4, 3) := by decide +kernel
theorem dX10_isOlder_29 : decode cX10_isOlder 29 = .ok (.iconst 0, 1) := by decide +kernel
theorem dX10_isOlder_30 : decode cX10_isOlder 30 = .ok (.istore_n 3, 1) := by decide +kernel
theorem dX10_isOlder_31 : decode cX10_isOlder 31 = .ok (.iload_n 3, 1) := by decide +kernel
theorem dX10_isOlder_32 : decode cX10_isOlder 32 = .ok (.ifCond .eq 42, 3) := by decide +kernel
theorem dX10_isOlder_35 : decode cX10_isOlder 35 = .ok (.aload_n 0, 1) := by decide +kernel
theorem dX10_isOlder_36 : decode cX10_isOlder 36 = .ok (.getfield 35, 3) := by decide +kernel
theorem dX10_isOlder_39 : decode cX10_isOlder 39 = .ok (.iload_n 1, 1) := by decide +kernel
theorem dX10_isOlder_40 : decode cX10_isOlder 40 = .ok (.iaload, 1) := by decide +kernel
theorem dX10_isOlder_41 : decode cX10_isOlder 41 = .ok (.iconst (-1), 1) := by decide +kernel
theorem dX10_isOlder_42 : decode cX10_isOlder 42 = .ok (.if_icmp .eq 32, 3) := by decide +kernel
theorem dX10_isOlder_45 : decode cX10_isOlder 45 = .ok (.aload_n 0, 1) := by decide +kernel
theorem dX10_isOlder_46 : decode cX10_isOlder 46 = .ok (.getfield 35, 3) := by decide +kernel
theorem dX10_isOlder_49 : decode cX10_isOlder 49 = .ok (.iload_n 2, 1) := by decide +kernel
theorem dX10_isOlder_50 : decode cX10_isOlder 50 = .ok (.iaload, 1) := by decide +kernel
theorem dX10_isOlder_51 : decode cX10_isOlder 51 = .ok (.iconst (-1), 1) := by decide +kernel
theorem dX10_isOlder_52 : decode cX10_isOlder 52 = .ok (.if_icmp .eq 22, 3) := by decide +kernel
theorem dX10_isOlder_55 : decode cX10_isOlder 55 = .ok (.aload_n 0, 1) := by decide +kernel
theorem dX10_isOlder_56 : decode cX10_isOlder 56 = .ok (.getfield 38, 3) := by decide +kernel
theorem dX10_isOlder_59 : decode cX10_isOlder 59 = .ok (.iload_n 1, 1) := by decide +kernel
theorem dX10_isOlder_60 : decode cX10_isOlder 60 = .ok (.iaload, 1) := by decide +kernel
theorem dX10_isOlder_61 : decode cX10_isOlder 61 = .ok (.aload_n 0, 1) := by decide +kernel
theorem dX10_isOlder_62 : decode cX10_isOlder 62 = .ok (.getfield 35, 3) := by decide +kernel
theorem dX10_isOlder_65 : decode cX10_isOlder 65 = .ok (.iload_n 2, 1) := by decide +kernel
theorem dX10_isOlder_66 : decode cX10_isOlder 66 = .ok (.iaload, 1) := by decide +kernel
theorem dX10_isOlder_67 : decode cX10_isOlder 67 = .ok (.if_icmp .ge 7, 3) := by decide +kernel
theorem dX10_isOlder_70 : decode cX10_isOlder 70 = .ok (.iconst 1, 1) := by decide +kernel
theorem dX10_isOlder_71 : decode cX10_isOlder 71 = .ok (.goto 4, 3) := by decide +kernel
theorem dX10_isOlder_74 : decode cX10_isOlder 74 = .ok (.iconst 0, 1) := by decide +kernel
theorem dX10_isOlder_75 : decode cX10_isOlder 75 = .ok (.ireturn, 1) := by decide +kernel
set_option maxRecDepth 100000 in
theorem B_X10_isOlder_0 {d : Nat} {h : AbH} {K : Option AbV → AbH → Prop} {x0 : Nat} {x1 : Int} {x2 : Int} (hh : wpGR h (some x0) 9 0 (fun r1 => Vm d m_X10_loanAt [vI x1] h (kI (fun n3 h2 => in32 (n3 + 1) ∧ wpLI h2 r1 (n3 + 1) (fun n5 => wpGR h2 (some x0) 9 0 (fun r6 => Vm d m_X10_loanAt [vI x2] h2 (kI (fun n8 h7 => in32 (n8 + 1) ∧ wpLI h7 r6 (n8 + 1) (fun n10 => ((n5 ≠ n10 → K (some (vI 0)) h7) ∧ (¬ (n5 ≠ n10) → wpGR h7 (some x0) 9 17 (fun r11 => wpLI h7 r11 x1 (fun n12 => ((n12 = (-1) → K (some (vI 0)) h7) ∧ (¬ (n12 = (-1)) → wpGR h7 (some x0) 9 17 (fun r13 => wpLI h7 r13 x2 (fun n14 => ((n14 = (-1) → K (some (vI 0)) h7) ∧ (¬ (n14 = (-1)) → wpGR h7 (some x0) 9 18 (fun r15 => wpLI h7 r15 x1 (fun n16 => wpGR h7 (some x0) 9 17 (fun r17 => wpLI h7 r17 x2 (fun n18 => ((n18 ≤ n16 → K (some (vI 0)) h7) ∧ (¬ (n18 ≤ n16) → K (some (vI 1)) h7))))))))))))))))))))))))) : Vx (d + 1) m_X10_isOlder 0 0 0 [some (vR (some x0)), some (vI x1), some (vI x2)] [] h K := by
  refine Vx.pad 1 [some (vR (some x0)), some (vI x1), some (vI x2), none] rfl ?_
  refine rr_aload_n dX10_isOlder_0 rfl rfl ?_
  refine rr_getR cf_X10 (j := 0) (by decide) dX10_isOlder_1 rfl q_754 hh (fun r1 hh => ?_)
  refine rr_iload_n dX10_isOlder_4 rfl rfl ?_
  refine rr_callS (bc' := 0) (bs' := 0) (av := [vI x1]) (st := [vR r1]) mf_X10_loanAt dX10_isOlder_5 rfl q_918 q_919 rfl (cs_le _ (Nat.le_of_ble_eq_true rfl)) (Nat.le_refl _) (Nat.le_refl _) hh (rr_kI fun n3 h2 hh => ?_)
  refine rr_iconst dX10_isOlder_8 rfl ⟨by decide, by decide⟩ ?_
  obtain ⟨hz4, hh⟩ := hh
  refine rr_iadd dX10_isOlder_9 rfl hz4 ?_
  refine rr_iald dX10_isOlder_10 rfl hh (fun n5 hh => ?_)
  refine rr_aload_n dX10_isOlder_11 rfl rfl ?_
  refine rr_getR cf_X10 (j := 0) (by decide) dX10_isOlder_12 rfl q_754 hh (fun r6 hh => ?_)
  refine rr_iload_n dX10_isOlder_15 rfl rfl ?_
  refine rr_callS (bc' := 0) (bs' := 0) (av := [vI x2]) (st := [vR r6, vI n5]) mf_X10_loanAt dX10_isOlder_16 rfl q_918 q_919 rfl (cs_le _ (Nat.le_of_ble_eq_true rfl)) (Nat.le_refl _) (Nat.le_refl _) hh (rr_kI fun n8 h7 hh => ?_)
  refine rr_iconst dX10_isOlder_19 rfl ⟨by decide, by decide⟩ ?_
  obtain ⟨hz9, hh⟩ := hh
  refine rr_iadd dX10_isOlder_20 rfl hz9 ?_
  refine rr_iald dX10_isOlder_21 rfl hh (fun n10 hh => ?_)
  refine rr_icmp_ne (tgt := 29) dX10_isOlder_22 rfl (by decide) (fun hc22 => ?_) (fun hc22 => ?_)
  · have hh := hh.1 hc22
    refine rr_iconst dX10_isOlder_29 rfl ⟨by decide, by decide⟩ ?_
    refine rr_istore_n (ls' := [some (vR (some x0)), some (vI x1), some (vI x2), some (vI 0)]) dX10_isOlder_30 rfl (by decide) (fun _ z => by cases z) rfl ?_
    refine rr_iload_n dX10_isOlder_31 rfl rfl ?_
    refine rr_if_eq (tgt := 74) dX10_isOlder_32 rfl (by decide) (fun _ => ?_) (fun hc => absurd (by decide) hc)
    refine rr_iconst dX10_isOlder_74 rfl ⟨by decide, by decide⟩ ?_
    exact rr_zret dX10_isOlder_75 rfl rfl hh
  · have hh := hh.2 hc22
    refine rr_iconst dX10_isOlder_25 rfl ⟨by decide, by decide⟩ ?_
    refine rr_goto (pc' := 30) dX10_isOlder_26 (by decide) ?_
    refine rr_istore_n (ls' := [some (vR (some x0)), some (vI x1), some (vI x2), some (vI 1)]) dX10_isOlder_30 rfl (by decide) (fun _ z => by cases z) rfl ?_
    refine rr_iload_n dX10_isOlder_31 rfl rfl ?_
    refine rr_if_eq (tgt := 74) dX10_isOlder_32 rfl (by decide) (fun hc => absurd hc (by decide)) (fun _ => ?_)
    refine rr_aload_n dX10_isOlder_35 rfl rfl ?_
    refine rr_getR cf_X10 (j := 17) (by decide) dX10_isOlder_36 rfl q_771 hh (fun r11 hh => ?_)
    refine rr_iload_n dX10_isOlder_39 rfl rfl ?_
    refine rr_iald dX10_isOlder_40 rfl hh (fun n12 hh => ?_)
    refine rr_iconst dX10_isOlder_41 rfl ⟨by decide, by decide⟩ ?_
    refine rr_icmp_eq (tgt := 74) dX10_isOlder_42 rfl (by decide) (fun hc42 => ?_) (fun hc42 => ?_)
    · have hh := hh.1 hc42
      refine rr_iconst dX10_isOlder_74 rfl ⟨by decide, by decide⟩ ?_
      exact rr_zret dX10_isOlder_75 rfl rfl hh
    · have hh := hh.2 hc42
      refine rr_aload_n dX10_isOlder_45 rfl rfl ?_
      refine rr_getR cf_X10 (j := 17) (by decide) dX10_isOlder_46 rfl q_771 hh (fun r13 hh => ?_)
      refine rr_iload_n dX10_isOlder_49 rfl rfl ?_
      refine rr_iald dX10_isOlder_50 rfl hh (fun n14 hh => ?_)
      refine rr_iconst dX10_isOlder_51 rfl ⟨by decide, by decide⟩ ?_
      refine rr_icmp_eq (tgt := 74) dX10_isOlder_52 rfl (by decide) (fun hc52 => ?_) (fun hc52 => ?_)
      · have hh := hh.1 hc52
        refine rr_iconst dX10_isOlder_74 rfl ⟨by decide, by decide⟩ ?_
        exact rr_zret dX10_isOlder_75 rfl rfl hh
      · have hh := hh.2 hc52
        refine rr_aload_n dX10_isOlder_55 rfl rfl ?_
        refine rr_getR cf_X10 (j := 18) (by decide) dX10_isOlder_56 rfl q_772 hh (fun r15 hh => ?_)
        refine rr_iload_n dX10_isOlder_59 rfl rfl ?_
        refine rr_iald dX10_isOlder_60 rfl hh (fun n16 hh => ?_)
        refine rr_aload_n dX10_isOlder_61 rfl rfl ?_
        refine rr_getR cf_X10 (j := 17) (by decide) dX10_isOlder_62 rfl q_771 hh (fun r17 hh => ?_)
        refine rr_iload_n dX10_isOlder_65 rfl rfl ?_
        refine rr_iald dX10_isOlder_66 rfl hh (fun n18 hh => ?_)
        refine rr_icmp_ge (tgt := 74) dX10_isOlder_67 rfl (by decide) (fun hc67 => ?_) (fun hc67 => ?_)
        · have hh := hh.1 hc67
          refine rr_iconst dX10_isOlder_74 rfl ⟨by decide, by decide⟩ ?_
          exact rr_zret dX10_isOlder_75 rfl rfl hh
        · have hh := hh.2 hc67
          refine rr_iconst dX10_isOlder_70 rfl ⟨by decide, by decide⟩ ?_
          refine rr_goto (pc' := 75) dX10_isOlder_71 (by decide) ?_
          exact rr_zret dX10_isOlder_75 rfl rfl hh
theorem dX10_finds_0 : decode cX10_finds 0 = .ok (.iconst 0, 1) := by decide +kernel
theorem dX10_finds_1 : decode cX10_finds 1 = .ok (.istore_n 1, 1) := by decide +kernel
theorem dX10_finds_2 : decode cX10_finds 2 = .ok (.iload_n 1, 1) := by decide +kernel
theorem dX10_finds_3 : decode cX10_finds 3 = .ok (.aload_n 0, 1) := by decide +kernel
theorem dX10_finds_4 : decode cX10_finds 4 = .ok (.getfield 7, 3) := by decide +kernel
theorem dX10_finds_7 : decode cX10_finds 7 = .ok (.iconst 1, 1) := by decide +kernel
theorem dX10_finds_8 : decode cX10_finds 8 = .ok (.iaload, 1) := by decide +kernel
theorem dX10_finds_9 : decode cX10_finds 9 = .ok (.if_icmp .ge 52, 3) := by decide +kernel
theorem dX10_finds_12 : decode cX10_finds 12 = .ok (.aload_n 0, 1) := by decide +kernel
theorem dX10_finds_13 : decode cX10_finds 13 = .ok (.getfield 35, 3) := by decide +kernel
theorem dX10_finds_16 : decode cX10_finds 16 = .ok (.iload_n 1, 1) := by decide +kernel
theorem dX10_finds_17 : decode cX10_finds 17 = .ok (.aload_n 0, 1) := by decide +kernel
theorem dX10_finds_18 : decode cX10_finds 18 = .ok (.iload_n 1, 1) := by decide +kernel
theorem dX10_finds_19 : decode cX10_finds 19 = .ok (.invokevirtual 204, 3) := by decide +kernel
theorem dX10_finds_22 : decode cX10_finds 22 = .ok (.iastore, 1) := by decide +kernel
theorem dX10_finds_23 : decode cX10_finds 23 = .ok (.aload_n 0, 1) := by decide +kernel
theorem dX10_finds_24 : decode cX10_finds 24 = .ok (.getfield 38, 3) := by decide +kernel
theorem dX10_finds_27 : decode cX10_finds 27 = .ok (.iload_n 1, 1) := by decide +kernel
theorem dX10_finds_28 : decode cX10_finds 28 = .ok (.aload_n 0, 1) := by decide +kernel
theorem dX10_finds_29 : decode cX10_finds 29 = .ok (.iload_n 1, 1) := by decide +kernel
theorem dX10_finds_30 : decode cX10_finds 30 = .ok (.invokevirtual 207, 3) := by decide +kernel
theorem dX10_finds_33 : decode cX10_finds 33 = .ok (.iastore, 1) := by decide +kernel
theorem dX10_finds_34 : decode cX10_finds 34 = .ok (.aload_n 0, 1) := by decide +kernel
theorem dX10_finds_35 : decode cX10_finds 35 = .ok (.getfield 41, 3) := by decide +kernel
theorem dX10_finds_38 : decode cX10_finds 38 = .ok (.iload_n 1, 1) := by decide +kernel
theorem dX10_finds_39 : decode cX10_finds 39 = .ok (.aload_n 0, 1) := by decide +kernel
theorem dX10_finds_40 : decode cX10_finds 40 = .ok (.getfield 35, 3) := by decide +kernel
theorem dX10_finds_43 : decode cX10_finds 43 = .ok (.iload_n 1, 1) := by decide +kernel
theorem dX10_finds_44 : decode cX10_finds 44 = .ok (.iaload, 1) := by decide +kernel
theorem dX10_finds_45 : decode cX10_finds 45 = .ok (.iconst (-1), 1) := by decide +kernel
theorem dX10_finds_46 : decode cX10_finds 46 = .ok (.if_icmp .ne 7, 3) := by decide +kernel
theorem dX10_finds_49 : decode cX10_finds 49 = .ok (.iconst 0, 1) := by decide +kernel
theorem dX10_finds_50 : decode cX10_finds 50 = .ok (.goto 4, 3) := by decide +kernel
theorem dX10_finds_53 : decode cX10_finds 53 = .ok (.iconst 1, 1) := by decide +kernel
theorem dX10_finds_54 : decode cX10_finds 54 = .ok (.iastore, 1) := by decide +kernel
theorem dX10_finds_55 : decode cX10_finds 55 = .ok (.iinc 1 1, 3) := by decide +kernel
theorem dX10_finds_58 : decode cX10_finds 58 = .ok (.goto (-56), 3) := by decide +kernel
theorem dX10_finds_61 : decode cX10_finds 61 = .ok (.iconst 0, 1) := by decide +kernel
theorem dX10_finds_62 : decode cX10_finds 62 = .ok (.istore_n 1, 1) := by decide +kernel
theorem dX10_finds_63 : decode cX10_finds 63 = .ok (.iload_n 1, 1) := by decide +kernel
theorem dX10_finds_64 : decode cX10_finds 64 = .ok (.aload_n 0, 1) := by decide +kernel
theorem dX10_finds_65 : decode cX10_finds 65 = .ok (.getfield 7, 3) := by decide +kernel
theorem dX10_finds_68 : decode cX10_finds 68 = .ok (.iconst 1, 1) := by decide +kernel
theorem dX10_finds_69 : decode cX10_finds 69 = .ok (.iaload, 1) := by decide +kernel
theorem dX10_finds_70 : decode cX10_finds 70 = .ok (.if_icmp .ge 92, 3) := by decide +kernel
theorem dX10_finds_73 : decode cX10_finds 73 = .ok (.iconst 0, 1) := by decide +kernel
theorem dX10_finds_74 : decode cX10_finds 74 = .ok (.istore_n 2, 1) := by decide +kernel
theorem dX10_finds_75 : decode cX10_finds 75 = .ok (.iload_n 2, 1) := by decide +kernel
theorem dX10_finds_76 : decode cX10_finds 76 = .ok (.aload_n 0, 1) := by decide +kernel
theorem dX10_finds_77 : decode cX10_finds 77 = .ok (.getfield 7, 3) := by decide +kernel
theorem dX10_finds_80 : decode cX10_finds 80 = .ok (.iconst 1, 1) := by decide +kernel
theorem dX10_finds_81 : decode cX10_finds 81 = .ok (.iaload, 1) := by decide +kernel
theorem dX10_finds_82 : decode cX10_finds 82 = .ok (.if_icmp .ge 74, 3) := by decide +kernel
theorem dX10_finds_85 : decode cX10_finds 85 = .ok (.iconst 0, 1) := by decide +kernel
theorem dX10_finds_86 : decode cX10_finds 86 = .ok (.istore_n 3, 1) := by decide +kernel
theorem dX10_finds_87 : decode cX10_finds 87 = .ok (.iload_n 3, 1) := by decide +kernel
theorem dX10_finds_88 : decode cX10_finds 88 = .ok (.aload_n 0, 1) := by decide +kernel
theorem dX10_finds_89 : decode cX10_finds 89 = .ok (.getfield 7, 3) := by decide +kernel
theorem dX10_finds_92 : decode cX10_finds 92 = .ok (.iconst 1, 1) := by decide +kernel
theorem dX10_finds_93 : decode cX10_finds 93 = .ok (.iaload, 1) := by decide +kernel
theorem dX10_finds_94 : decode cX10_finds 94 = .ok (.if_icmp .ge 56, 3) := by decide +kernel
theorem dX10_finds_97 : decode cX10_finds 97 = .ok (.aload_n 0, 1) := by decide +kernel
theorem dX10_finds_98 : decode cX10_finds 98 = .ok (.getfield 41, 3) := by decide +kernel
theorem dX10_finds_101 : decode cX10_finds 101 = .ok (.iload_n 2, 1) := by decide +kernel
theorem dX10_finds_102 : decode cX10_finds 102 = .ok (.aload_n 0, 1) := by decide +kernel
theorem dX10_finds_103 : decode cX10_finds 103 = .ok (.iload_n 3, 1) := by decide +kernel
theorem dX10_finds_104 : decode cX10_finds 104 = .ok (.iload_n 2, 1) := by decide +kernel
theorem dX10_finds_105 : decode cX10_finds 105 = .ok (.invokevirtual 210, 3) := by decide +kernel
theorem dX10_finds_108 : decode cX10_finds 108 = .ok (.ifCond .eq 29, 3) := by decide +kernel
theorem dX10_finds_111 : decode cX10_finds 111 = .ok (.aload_n 0, 1) := by decide +kernel
theorem dX10_finds_112 : decode cX10_finds 112 = .ok (.getfield 41, 3) := by decide +kernel
theorem dX10_finds_115 : decode cX10_finds 115 = .ok (.iload_n 3, 1) := by decide +kernel
theorem dX10_finds_116 : decode cX10_finds 116 = .ok (.iaload, 1) := by decide +kernel
theorem dX10_finds_117 : decode cX10_finds 117 = .ok (.aload_n 0, 1) := by decide +kernel
theorem dX10_finds_118 : decode cX10_finds 118 = .ok (.getfield 41, 3) := by decide +kernel
theorem dX10_finds_121 : decode cX10_finds 121 = .ok (.iload_n 2, 1) := by decide +kernel
theorem dX10_finds_122 : decode cX10_finds 122 = .ok (.iaload, 1) := by decide +kernel
theorem dX10_finds_123 : decode cX10_finds 123 = .ok (.if_icmp .lt 14, 3) := by decide +kernel
theorem dX10_finds_126 : decode cX10_finds 126 = .ok (.aload_n 0, 1) := by decide +kernel
theorem dX10_finds_127 : decode cX10_finds 127 = .ok (.getfield 41, 3) := by decide +kernel
theorem dX10_finds_130 : decode cX10_finds 130 = .ok (.iload_n 3, 1) := by decide +kernel
theorem dX10_finds_131 : decode cX10_finds 131 = .ok (.iaload, 1) := by decide +kernel
theorem dX10_finds_132 : decode cX10_finds 132 = .ok (.iconst 1, 1) := by decide +kernel
theorem dX10_finds_133 : decode cX10_finds 133 = .ok (.iadd, 1) := by decide +kernel
theorem dX10_finds_134 : decode cX10_finds 134 = .ok (.goto 9, 3) := by decide +kernel
theorem dX10_finds_137 : decode cX10_finds 137 = .ok (.aload_n 0, 1) := by decide +kernel
theorem dX10_finds_138 : decode cX10_finds 138 = .ok (.getfield 41, 3) := by decide +kernel
theorem dX10_finds_141 : decode cX10_finds 141 = .ok (.iload_n 2, 1) := by decide +kernel
theorem dX10_finds_142 : decode cX10_finds 142 = .ok (.iaload, 1) := by decide +kernel
theorem dX10_finds_143 : decode cX10_finds 143 = .ok (.iastore, 1) := by decide +kernel
theorem dX10_finds_144 : decode cX10_finds 144 = .ok (.iinc 3 1, 3) := by decide +kernel
theorem dX10_finds_147 : decode cX10_finds 147 = .ok (.goto (-60), 3) := by decide +kernel
theorem dX10_finds_150 : decode cX10_finds 150 = .ok (.iinc 2 1, 3) := by decide +kernel
theorem dX10_finds_153 : decode cX10_finds 153 = .ok (.goto (-78), 3) := by decide +kernel
theorem dX10_finds_156 : decode cX10_finds 156 = .ok (.iinc 1 1, 3) := by decide +kernel
theorem dX10_finds_159 : decode cX10_finds 159 = .ok (.goto (-96), 3) := by decide +kernel
theorem dX10_finds_162 : decode cX10_finds 162 = .ok (.return_, 1) := by decide +kernel
set_option maxRecDepth 100000 in
theorem B_X10_finds_0 {d : Nat} {h : AbH} {K : Option AbV → AbH → Prop} {x0 : Nat} (hh : Vx (d + 1) m_X10_finds 0 0 2 [some (vR (some x0)), some (vI 0), none, none] [] h K) : Vx (d + 1) m_X10_finds 0 0 0 [some (vR (some x0))] [] h K := by
  refine Vx.pad 3 [some (vR (some x0)), none, none, none] rfl ?_
  refine rr_iconst dX10_finds_0 rfl ⟨by decide, by decide⟩ ?_
  refine rr_istore_n (ls' := [some (vR (some x0)), some (vI 0), none, none]) dX10_finds_1 rfl (by decide) (fun _ z => by cases z) rfl ?_
  exact hh
set_option maxRecDepth 100000 in
theorem B_X10_finds_2 {d : Nat} {h : AbH} {K : Option AbV → AbH → Prop} {x0 : Nat} {x1 : Int} {bc bs : Nat} (hh : wpGR h (some x0) 9 0 (fun r1 => wpLI h r1 1 (fun n2 => ((n2 ≤ x1 → Vx (d + 1) m_X10_finds bc bs 63 [some (vR (some x0)), some (vI 0), none, none] [] h K) ∧ (¬ (n2 ≤ x1) → wpGR h (some x0) 9 17 (fun r3 => wpCV h (some x0) 9 (fun b19 => Vm d m_X10_firstOf [vR (some b19), vI x1] h (kI (fun n5 h4 => wpSI h4 r3 x1 n5 (fun h6 => wpGR h6 (some x0) 9 18 (fun r7 => wpCV h6 (some x0) 9 (fun b18 => Vm d m_X10_lastOf [vR (some b18), vI x1] h6 (kI (fun n9 h8 => wpSI h8 r7 x1 n9 (fun h10 => wpGR h10 (some x0) 9 19 (fun r11 => wpGR h10 (some x0) 9 17 (fun r12 => wpLI h10 r12 x1 (fun n13 => ((n13 ≠ (-1) → wpSI h10 r11 x1 1 (fun h14 => in32 (x1 + 1) ∧ Vx (d + 1) m_X10_finds bc bs 2 [some (vR (some x0)), some (vI (x1 + 1)), none, none] [] h14 K)) ∧ (¬ (n13 ≠ (-1)) → wpSI h10 r11 x1 0 (fun h16 => in32 (x1 + 1) ∧ Vx (d + 1) m_X10_finds bc bs 2 [some (vR (some x0)), some (vI (x1 + 1)), none, none] [] h16 K))))))))))))))))))))) : Vx (d + 1) m_X10_finds bc bs 2 [some (vR (some x0)), some (vI x1), none, none] [] h K := by
  refine rr_iload_n dX10_finds_2 rfl rfl ?_
  refine rr_aload_n dX10_finds_3 rfl rfl ?_
  refine rr_getR cf_X10 (j := 0) (by decide) dX10_finds_4 rfl q_754 hh (fun r1 hh => ?_)
  refine rr_iconst dX10_finds_7 rfl ⟨by decide, by decide⟩ ?_
  refine rr_iald dX10_finds_8 rfl hh (fun n2 hh => ?_)
  refine rr_icmp_ge (tgt := 61) dX10_finds_9 rfl (by decide) (fun hc9 => ?_) (fun hc9 => ?_)
  · have hh := hh.1 hc9
    refine rr_iconst dX10_finds_61 rfl ⟨by decide, by decide⟩ ?_
    refine rr_istore_n (ls' := [some (vR (some x0)), some (vI 0), none, none]) dX10_finds_62 rfl (by decide) (fun _ z => by cases z) rfl ?_
    exact hh
  · have hh := hh.2 hc9
    refine rr_aload_n dX10_finds_12 rfl rfl ?_
    refine rr_getR cf_X10 (j := 17) (by decide) dX10_finds_13 rfl q_771 hh (fun r3 hh => ?_)
    refine rr_iload_n dX10_finds_16 rfl rfl ?_
    refine rr_aload_n dX10_finds_17 rfl rfl ?_
    refine rr_iload_n dX10_finds_18 rfl rfl ?_
    refine rr_callW (bc' := bc) (bs' := bs) (q := (some x0)) (av := [vI x1]) (st := [vI x1, vR r3]) mf_X10_firstOf dX10_finds_19 rfl q_1039 q_1041 qs_53 ⟨_, _, rfl⟩ rfl (cs_le _ (Nat.le_of_ble_eq_true rfl)) (Nat.le_refl _) (Nat.le_refl _) hh (rr_kI fun n5 h4 hh => ?_)
    refine rr_iast dX10_finds_22 rfl hh (fun h6 hh => ?_)
    refine rr_aload_n dX10_finds_23 rfl rfl ?_
    refine rr_getR cf_X10 (j := 18) (by decide) dX10_finds_24 rfl q_772 hh (fun r7 hh => ?_)
    refine rr_iload_n dX10_finds_27 rfl rfl ?_
    refine rr_aload_n dX10_finds_28 rfl rfl ?_
    refine rr_iload_n dX10_finds_29 rfl rfl ?_
    refine rr_callW (bc' := bc) (bs' := bs) (q := (some x0)) (av := [vI x1]) (st := [vI x1, vR r7]) mf_X10_lastOf dX10_finds_30 rfl q_1063 q_1065 qs_59 ⟨_, _, rfl⟩ rfl (cs_le _ (Nat.le_of_ble_eq_true rfl)) (Nat.le_refl _) (Nat.le_refl _) hh (rr_kI fun n9 h8 hh => ?_)
    refine rr_iast dX10_finds_33 rfl hh (fun h10 hh => ?_)
    refine rr_aload_n dX10_finds_34 rfl rfl ?_
    refine rr_getR cf_X10 (j := 19) (by decide) dX10_finds_35 rfl q_773 hh (fun r11 hh => ?_)
    refine rr_iload_n dX10_finds_38 rfl rfl ?_
    refine rr_aload_n dX10_finds_39 rfl rfl ?_
    refine rr_getR cf_X10 (j := 17) (by decide) dX10_finds_40 rfl q_771 hh (fun r12 hh => ?_)
    refine rr_iload_n dX10_finds_43 rfl rfl ?_
    refine rr_iald dX10_finds_44 rfl hh (fun n13 hh => ?_)
    refine rr_iconst dX10_finds_45 rfl ⟨by decide, by decide⟩ ?_
    refine rr_icmp_ne (tgt := 53) dX10_finds_46 rfl (by decide) (fun hc46 => ?_) (fun hc46 => ?_)
    · have hh := hh.1 hc46
      refine rr_iconst dX10_finds_53 rfl ⟨by decide, by decide⟩ ?_
      refine rr_iast dX10_finds_54 rfl hh (fun h14 hh => ?_)
      obtain ⟨hz15, hh⟩ := hh
      refine rr_iinc (ls' := [some (vR (some x0)), some (vI (x1 + 1)), none, none]) dX10_finds_55 rfl rfl (by decide) (fun _ z => by cases z) hz15 rfl ?_
      refine rr_goto (pc' := 2) dX10_finds_58 (by decide) ?_
      exact hh
    · have hh := hh.2 hc46
      refine rr_iconst dX10_finds_49 rfl ⟨by decide, by decide⟩ ?_
      refine rr_goto (pc' := 54) dX10_finds_50 (by decide) ?_
      refine rr_iast dX10_finds_54 rfl hh (fun h16 hh => ?_)
      obtain ⟨hz17, hh⟩ := hh
      refine rr_iinc (ls' := [some (vR (some x0)), some (vI (x1 + 1)), none, none]) dX10_finds_55 rfl rfl (by decide) (fun _ z => by cases z) hz17 rfl ?_
      refine rr_goto (pc' := 2) dX10_finds_58 (by decide) ?_
      exact hh
set_option maxRecDepth 100000 in
theorem B_X10_finds_63 {d : Nat} {h : AbH} {K : Option AbV → AbH → Prop} {x0 : Nat} {x1 : Int} {bc bs : Nat} (hh : wpGR h (some x0) 9 0 (fun r1 => wpLI h r1 1 (fun n2 => ((n2 ≤ x1 → K none h) ∧ (¬ (n2 ≤ x1) → Vx (d + 1) m_X10_finds bc bs 75 [some (vR (some x0)), some (vI x1), some (vI 0), none] [] h K))))) : Vx (d + 1) m_X10_finds bc bs 63 [some (vR (some x0)), some (vI x1), none, none] [] h K := by
  refine rr_iload_n dX10_finds_63 rfl rfl ?_
  refine rr_aload_n dX10_finds_64 rfl rfl ?_
  refine rr_getR cf_X10 (j := 0) (by decide) dX10_finds_65 rfl q_754 hh (fun r1 hh => ?_)
  refine rr_iconst dX10_finds_68 rfl ⟨by decide, by decide⟩ ?_
  refine rr_iald dX10_finds_69 rfl hh (fun n2 hh => ?_)
  refine rr_icmp_ge (tgt := 162) dX10_finds_70 rfl (by decide) (fun hc70 => ?_) (fun hc70 => ?_)
  · have hh := hh.1 hc70
    exact rr_vret dX10_finds_162 rfl hh
  · have hh := hh.2 hc70
    refine rr_iconst dX10_finds_73 rfl ⟨by decide, by decide⟩ ?_
    refine rr_istore_n (ls' := [some (vR (some x0)), some (vI x1), some (vI 0), none]) dX10_finds_74 rfl (by decide) (fun _ z => by cases z) rfl ?_
    exact hh
set_option maxRecDepth 100000 in
theorem B_X10_finds_75 {d : Nat} {h : AbH} {K : Option AbV → AbH → Prop} {x0 : Nat} {x1 : Int} {x2 : Int} {bc bs : Nat} (hh : wpGR h (some x0) 9 0 (fun r1 => wpLI h r1 1 (fun n2 => ((n2 ≤ x2 → in32 (x1 + 1) ∧ Vx (d + 1) m_X10_finds bc bs 63 [some (vR (some x0)), some (vI (x1 + 1)), none, none] [] h K) ∧ (¬ (n2 ≤ x2) → Vx (d + 1) m_X10_finds bc bs 87 [some (vR (some x0)), some (vI x1), some (vI x2), some (vI 0)] [] h K))))) : Vx (d + 1) m_X10_finds bc bs 75 [some (vR (some x0)), some (vI x1), some (vI x2), none] [] h K := by
  refine rr_iload_n dX10_finds_75 rfl rfl ?_
  refine rr_aload_n dX10_finds_76 rfl rfl ?_
  refine rr_getR cf_X10 (j := 0) (by decide) dX10_finds_77 rfl q_754 hh (fun r1 hh => ?_)
  refine rr_iconst dX10_finds_80 rfl ⟨by decide, by decide⟩ ?_
  refine rr_iald dX10_finds_81 rfl hh (fun n2 hh => ?_)
  refine rr_icmp_ge (tgt := 156) dX10_finds_82 rfl (by decide) (fun hc82 => ?_) (fun hc82 => ?_)
  · have hh := hh.1 hc82
    obtain ⟨hz3, hh⟩ := hh
    refine rr_iinc (ls' := [some (vR (some x0)), some (vI (x1 + 1)), some (vI x2), none]) dX10_finds_156 rfl rfl (by decide) (fun _ z => by cases z) hz3 rfl ?_
    refine rr_goto (pc' := 63) dX10_finds_159 (by decide) ?_
    exact Vx.forget (ls' := [some (vR (some x0)), some (vI (x1 + 1)), none, none]) (And.intro rfl (And.intro rfl trivial)) hh
  · have hh := hh.2 hc82
    refine rr_iconst dX10_finds_85 rfl ⟨by decide, by decide⟩ ?_
    refine rr_istore_n (ls' := [some (vR (some x0)), some (vI x1), some (vI x2), some (vI 0)]) dX10_finds_86 rfl (by decide) (fun _ z => by cases z) rfl ?_
    exact hh
set_option maxRecDepth 100000 in
theorem B_X10_finds_87 {d : Nat} {h : AbH} {K : Option AbV → AbH → Prop} {x0 : Nat} {x1 : Int} {x2 : Int} {x3 : Int} {bc bs : Nat} (hh : wpGR h (some x0) 9 0 (fun r1 => wpLI h r1 1 (fun n2 => ((n2 ≤ x3 → in32 (x2 + 1) ∧ Vx (d + 1) m_X10_finds bc bs 75 [some (vR (some x0)), some (vI x1), some (vI (x2 + 1)), none] [] h K) ∧ (¬ (n2 ≤ x3) → wpGR h (some x0) 9 19 (fun r4 => wpCV h (some x0) 9 (fun b24 => Vm d m_X10_isOlder [vR (some b24), vI x3, vI x2] h (kI (fun n6 h5 => ((n6 = 0 → wpGR h5 (some x0) 9 19 (fun r7 => wpLI h5 r7 x2 (fun n8 => wpSI h5 r4 x2 n8 (fun h9 => in32 (x3 + 1) ∧ Vx (d + 1) m_X10_finds bc bs 87 [some (vR (some x0)), some (vI x1), some (vI x2), some (vI (x3 + 1))] [] h9 K)))) ∧ (¬ (n6 = 0) → wpGR h5 (some x0) 9 19 (fun r11 => wpLI h5 r11 x3 (fun n12 => wpGR h5 (some x0) 9 19 (fun r13 => wpLI h5 r13 x2 (fun n14 => ((n12 < n14 → wpGR h5 (some x0) 9 19 (fun r15 => wpLI h5 r15 x2 (fun n16 => wpSI h5 r4 x2 n16 (fun h17 => in32 (x3 + 1) ∧ Vx (d + 1) m_X10_finds bc bs 87 [some (vR (some x0)), some (vI x1), some (vI x2), some (vI (x3 + 1))] [] h17 K)))) ∧ (¬ (n12 < n14) → wpGR h5 (some x0) 9 19 (fun r19 => wpLI h5 r19 x3 (fun n20 => in32 (n20 + 1) ∧ wpSI h5 r4 x2 (n20 + 1) (fun h22 => in32 (x3 + 1) ∧ Vx (d + 1) m_X10_finds bc bs 87 [some (vR (some x0)), some (vI x1), some (vI x2), some (vI (x3 + 1))] [] h22 K)))))))))))))))))))) : Vx (d + 1) m_X10_finds bc bs 87 [some (vR (some x0)), some (vI x1), some (vI x2), some (vI x3)] [] h K := by
  refine rr_iload_n dX10_finds_87 rfl rfl ?_
  refine rr_aload_n dX10_finds_88 rfl rfl ?_
  refine rr_getR cf_X10 (j := 0) (by decide) dX10_finds_89 rfl q_754 hh (fun r1 hh => ?_)
  refine rr_iconst dX10_finds_92 rfl ⟨by decide, by decide⟩ ?_
  refine rr_iald dX10_finds_93 rfl hh (fun n2 hh => ?_)
  refine rr_icmp_ge (tgt := 150) dX10_finds_94 rfl (by decide) (fun hc94 => ?_) (fun hc94 => ?_)
  · have hh := hh.1 hc94
    obtain ⟨hz3, hh⟩ := hh
    refine rr_iinc (ls' := [some (vR (some x0)), some (vI x1), some (vI (x2 + 1)), some (vI x3)]) dX10_finds_150 rfl rfl (by decide) (fun _ z => by cases z) hz3 rfl ?_
    refine rr_goto (pc' := 75) dX10_finds_153 (by decide) ?_
    exact Vx.forget (ls' := [some (vR (some x0)), some (vI x1), some (vI (x2 + 1)), none]) (And.intro rfl (And.intro rfl (And.intro rfl trivial))) hh
  · have hh := hh.2 hc94
    refine rr_aload_n dX10_finds_97 rfl rfl ?_
    refine rr_getR cf_X10 (j := 19) (by decide) dX10_finds_98 rfl q_773 hh (fun r4 hh => ?_)
    refine rr_iload_n dX10_finds_101 rfl rfl ?_
    refine rr_aload_n dX10_finds_102 rfl rfl ?_
    refine rr_iload_n dX10_finds_103 rfl rfl ?_
    refine rr_iload_n dX10_finds_104 rfl rfl ?_
    refine rr_callW (bc' := bc) (bs' := bs) (q := (some x0)) (av := [vI x3, vI x2]) (st := [vI x2, vR r4]) mf_X10_isOlder dX10_finds_105 rfl q_1071 q_1073 qs_61 ⟨_, _, rfl⟩ rfl (cs_le _ (Nat.le_of_ble_eq_true rfl)) (Nat.le_refl _) (Nat.le_refl _) hh (rr_kI fun n6 h5 hh => ?_)
    refine rr_if_eq (tgt := 137) dX10_finds_108 rfl (by decide) (fun hc108 => ?_) (fun hc108 => ?_)
    · have hh := hh.1 hc108
      refine rr_aload_n dX10_finds_137 rfl rfl ?_
      refine rr_getR cf_X10 (j := 19) (by decide) dX10_finds_138 rfl q_773 hh (fun r7 hh => ?_)
      refine rr_iload_n dX10_finds_141 rfl rfl ?_
      refine rr_iald dX10_finds_142 rfl hh (fun n8 hh => ?_)
      refine rr_iast dX10_finds_143 rfl hh (fun h9 hh => ?_)
      obtain ⟨hz10, hh⟩ := hh
      refine rr_iinc (ls' := [some (vR (some x0)), some (vI x1), some (vI x2), some (vI (x3 + 1))]) dX10_finds_144 rfl rfl (by decide) (fun _ z => by cases z) hz10 rfl ?_
      refine rr_goto (pc' := 87) dX10_finds_147 (by decide) ?_
      exact hh
    · have hh := hh.2 hc108
      refine rr_aload_n dX10_finds_111 rfl rfl ?_
      refine rr_getR cf_X10 (j := 19) (by decide) dX10_finds_112 rfl q_773 hh (fun r11 hh => ?_)
      refine rr_iload_n dX10_finds_115 rfl rfl ?_
      refine rr_iald dX10_finds_116 rfl hh (fun n12 hh => ?_)
      refine rr_aload_n dX10_finds_117 rfl rfl ?_
      refine rr_getR cf_X10 (j := 19) (by decide) dX10_finds_118 rfl q_773 hh (fun r13 hh => ?_)
      refine rr_iload_n dX10_finds_121 rfl rfl ?_
      refine rr_iald dX10_finds_122 rfl hh (fun n14 hh => ?_)
      refine rr_icmp_lt (tgt := 137) dX10_finds_123 rfl (by decide) (fun hc123 => ?_) (fun hc123 => ?_)
      · have hh := hh.1 hc123
        refine rr_aload_n dX10_finds_137 rfl rfl ?_
        refine rr_getR cf_X10 (j := 19) (by decide) dX10_finds_138 rfl q_773 hh (fun r15 hh => ?_)
        refine rr_iload_n dX10_finds_141 rfl rfl ?_
        refine rr_iald dX10_finds_142 rfl hh (fun n16 hh => ?_)
        refine rr_iast dX10_finds_143 rfl hh (fun h17 hh => ?_)
        obtain ⟨hz18, hh⟩ := hh
        refine rr_iinc (ls' := [some (vR (some x0)), some (vI x1), some (vI x2), some (vI (x3 + 1))]) dX10_finds_144 rfl rfl (by decide) (fun _ z => by cases z) hz18 rfl ?_
        refine rr_goto (pc' := 87) dX10_finds_147 (by decide) ?_
        exact hh
      · have hh := hh.2 hc123
        refine rr_aload_n dX10_finds_126 rfl rfl ?_
        refine rr_getR cf_X10 (j := 19) (by decide) dX10_finds_127 rfl q_773 hh (fun r19 hh => ?_)
        refine rr_iload_n dX10_finds_130 rfl rfl ?_
        refine rr_iald dX10_finds_131 rfl hh (fun n20 hh => ?_)
        refine rr_iconst dX10_finds_132 rfl ⟨by decide, by decide⟩ ?_
        obtain ⟨hz21, hh⟩ := hh
        refine rr_iadd dX10_finds_133 rfl hz21 ?_
        refine rr_goto (pc' := 143) dX10_finds_134 (by decide) ?_
        refine rr_iast dX10_finds_143 rfl hh (fun h22 hh => ?_)
        obtain ⟨hz23, hh⟩ := hh
        refine rr_iinc (ls' := [some (vR (some x0)), some (vI x1), some (vI x2), some (vI (x3 + 1))]) dX10_finds_144 rfl rfl (by decide) (fun _ z => by cases z) hz23 rfl ?_
        refine rr_goto (pc' := 87) dX10_finds_147 (by decide) ?_
        exact hh
theorem dX10_olderThan_0 : decode cX10_olderThan 0 = .ok (.iconst 0, 1) := by decide +kernel
theorem dX10_olderThan_1 : decode cX10_olderThan 1 = .ok (.istore_n 2, 1) := by decide +kernel
theorem dX10_olderThan_2 : decode cX10_olderThan 2 = .ok (.iconst 0, 1) := by decide +kernel
theorem dX10_olderThan_3 : decode cX10_olderThan 3 = .ok (.istore_n 3, 1) := by decide +kernel
theorem dX10_olderThan_4 : decode cX10_olderThan 4 = .ok (.iload_n 3, 1) := by decide +kernel
theorem dX10_olderThan_5 : decode cX10_olderThan 5 = .ok (.aload_n 0, 1) := by decide +kernel
theorem dX10_olderThan_6 : decode cX10_olderThan 6 = .ok (.getfield 7, 3) := by decide +kernel
theorem dX10_olderThan_9 : decode cX10_olderThan 9 = .ok (.iconst 1, 1) := by decide +kernel
theorem dX10_olderThan_10 : decode cX10_olderThan 10 = .ok (.iaload, 1) := by decide +kernel
theorem dX10_olderThan_11 : decode cX10_olderThan 11 = .ok (.if_icmp .ge 26, 3) := by decide +kernel
theorem dX10_olderThan_14 : decode cX10_olderThan 14 = .ok (.iload_n 2, 1) := by decide +kernel
theorem dX10_olderThan_15 : decode cX10_olderThan 15 = .ok (.aload_n 0, 1) := by decide +kernel
theorem dX10_olderThan_16 : decode cX10_olderThan 16 = .ok (.iload_n 3, 1) := by decide +kernel
theorem dX10_olderThan_17 : decode cX10_olderThan 17 = .ok (.iload_n 1, 1) := by decide +kernel
theorem dX10_olderThan_18 : decode cX10_olderThan 18 = .ok (.invokevirtual 210, 3) := by decide +kernel
theorem dX10_olderThan_21 : decode cX10_olderThan 21 = .ok (.ifCond .eq 7, 3) := by decide +kernel
theorem dX10_olderThan_24 : decode cX10_olderThan 24 = .ok (.iconst 1, 1) := by decide +kernel
theorem dX10_olderThan_25 : decode cX10_olderThan 25 = .ok (.goto 4, 3) := by decide +kernel
theorem dX10_olderThan_28 : decode cX10_olderThan 28 = .ok (.iconst 0, 1) := by decide +kernel
theorem dX10_olderThan_29 : decode cX10_olderThan 29 = .ok (.iadd, 1) := by decide +kernel
theorem dX10_olderThan_30 : decode cX10_olderThan 30 = .ok (.istore_n 2, 1) := by decide +kernel
theorem dX10_olderThan_31 : decode cX10_olderThan 31 = .ok (.iinc 3 1, 3) := by decide +kernel
theorem dX10_olderThan_34 : decode cX10_olderThan 34 = .ok (.goto (-30), 3) := by decide +kernel
theorem dX10_olderThan_37 : decode cX10_olderThan 37 = .ok (.iload_n 2, 1) := by decide +kernel
theorem dX10_olderThan_38 : decode cX10_olderThan 38 = .ok (.ireturn, 1) := by decide +kernel
set_option maxRecDepth 100000 in
theorem B_X10_olderThan_0 {d : Nat} {h : AbH} {K : Option AbV → AbH → Prop} {x0 : Nat} {x1 : Int} (hh : Vx (d + 1) m_X10_olderThan 0 0 4 [some (vR (some x0)), some (vI x1), some (vI 0), some (vI 0)] [] h K) : Vx (d + 1) m_X10_olderThan 0 0 0 [some (vR (some x0)), some (vI x1)] [] h K := by
  refine Vx.pad 2 [some (vR (some x0)), some (vI x1), none, none] rfl ?_
  refine rr_iconst dX10_olderThan_0 rfl ⟨by decide, by decide⟩ ?_
  refine rr_istore_n (ls' := [some (vR (some x0)), some (vI x1), some (vI 0), none]) dX10_olderThan_1 rfl (by decide) (fun _ z => by cases z) rfl ?_
  refine rr_iconst dX10_olderThan_2 rfl ⟨by decide, by decide⟩ ?_
  refine rr_istore_n (ls' := [some (vR (some x0)), some (vI x1), some (vI 0), some (vI 0)]) dX10_olderThan_3 rfl (by decide) (fun _ z => by cases z) rfl ?_
  exact hh
set_option maxRecDepth 100000 in
theorem B_X10_olderThan_4 {d : Nat} {h : AbH} {K : Option AbV → AbH → Prop} {x0 : Nat} {x1 : Int} {x2 : Int} {x3 : Int} {bc bs : Nat} (hh : wpGR h (some x0) 9 0 (fun r1 => wpLI h r1 1 (fun n2 => ((n2 ≤ x3 → K (some (vI x2)) h) ∧ (¬ (n2 ≤ x3) → wpCV h (some x0) 9 (fun b9 => Vm d m_X10_isOlder [vR (some b9), vI x3, vI x1] h (kI (fun n4 h3 => ((n4 = 0 → in32 (x2 + 0) ∧ in32 (x3 + 1) ∧ Vx (d + 1) m_X10_olderThan bc bs 4 [some (vR (some x0)), some (vI x1), some (vI (x2 + 0)), some (vI (x3 + 1))] [] h3 K) ∧ (¬ (n4 = 0) → in32 (x2 + 1) ∧ in32 (x3 + 1) ∧ Vx (d + 1) m_X10_olderThan bc bs 4 [some (vR (some x0)), some (vI x1), some (vI (x2 + 1)), some (vI (x3 + 1))] [] h3 K)))))))))) : Vx (d + 1) m_X10_olderThan bc bs 4 [some (vR (some x0)), some (vI x1), some (vI x2), some (vI x3)] [] h K := by
  refine rr_iload_n dX10_olderThan_4 rfl rfl ?_
  refine rr_aload_n dX10_olderThan_5 rfl rfl ?_
  refine rr_getR cf_X10 (j := 0) (by decide) dX10_olderThan_6 rfl q_754 hh (fun r1 hh => ?_)
  refine rr_iconst dX10_olderThan_9 rfl ⟨by decide, by decide⟩ ?_
  refine rr_iald dX10_olderThan_10 rfl hh (fun n2 hh => ?_)
  refine rr_icmp_ge (tgt := 37) dX10_olderThan_11 rfl (by decide) (fun hc11 => ?_) (fun hc11 => ?_)
  · have hh := hh.1 hc11
    refine rr_iload_n dX10_olderThan_37 rfl rfl ?_
    exact rr_iret dX10_olderThan_38 rfl hh
  · have hh := hh.2 hc11
    refine rr_iload_n dX10_olderThan_14 rfl rfl ?_
    refine rr_aload_n dX10_olderThan_15 rfl rfl ?_
    refine rr_iload_n dX10_olderThan_16 rfl rfl ?_
    refine rr_iload_n dX10_olderThan_17 rfl rfl ?_
    refine rr_callW (bc' := bc) (bs' := bs) (q := (some x0)) (av := [vI x3, vI x1]) (st := [vI x2]) mf_X10_isOlder dX10_olderThan_18 rfl q_1071 q_1073 qs_61 ⟨_, _, rfl⟩ rfl (show 1 ≤ 8 by decide) (Nat.le_refl _) (Nat.le_refl _) hh (rr_kI fun n4 h3 hh => ?_)
    refine rr_if_eq (tgt := 28) dX10_olderThan_21 rfl (by decide) (fun hc21 => ?_) (fun hc21 => ?_)
    · have hh := hh.1 hc21
      refine rr_iconst dX10_olderThan_28 rfl ⟨by decide, by decide⟩ ?_
      obtain ⟨hz5, hh⟩ := hh
      refine rr_iadd dX10_olderThan_29 rfl hz5 ?_
      refine rr_istore_n (ls' := [some (vR (some x0)), some (vI x1), some (vI (x2 + 0)), some (vI x3)]) dX10_olderThan_30 rfl (by decide) (fun _ z => by cases z) rfl ?_
      obtain ⟨hz6, hh⟩ := hh
      refine rr_iinc (ls' := [some (vR (some x0)), some (vI x1), some (vI (x2 + 0)), some (vI (x3 + 1))]) dX10_olderThan_31 rfl rfl (by decide) (fun _ z => by cases z) hz6 rfl ?_
      refine rr_goto (pc' := 4) dX10_olderThan_34 (by decide) ?_
      exact hh
    · have hh := hh.2 hc21
      refine rr_iconst dX10_olderThan_24 rfl ⟨by decide, by decide⟩ ?_
      refine rr_goto (pc' := 29) dX10_olderThan_25 (by decide) ?_
      obtain ⟨hz7, hh⟩ := hh
      refine rr_iadd dX10_olderThan_29 rfl hz7 ?_
      refine rr_istore_n (ls' := [some (vR (some x0)), some (vI x1), some (vI (x2 + 1)), some (vI x3)]) dX10_olderThan_30 rfl (by decide) (fun _ z => by cases z) rfl ?_
      obtain ⟨hz8, hh⟩ := hh
      refine rr_iinc (ls' := [some (vR (some x0)), some (vI x1), some (vI (x2 + 1)), some (vI (x3 + 1))]) dX10_olderThan_31 rfl rfl (by decide) (fun _ z => by cases z) hz8 rfl ?_
      refine rr_goto (pc' := 4) dX10_olderThan_34 (by decide) ?_
      exact hh
theorem dX10_copyRow_0 : decode cX10_copyRow 0 = .ok (.iconst 0, 1) := by decide +kernel
theorem dX10_copyRow_1 : decode cX10_copyRow 1 = .ok (.istore_n 3, 1) := by decide +kernel
theorem dX10_copyRow_2 : decode cX10_copyRow 2 = .ok (.iload_n 3, 1) := by decide +kernel
theorem dX10_copyRow_3 : decode cX10_copyRow 3 = .ok (.sipush 394, 3) := by decide +kernel
theorem dX10_copyRow_6 : decode cX10_copyRow 6 = .ok (.if_icmp .ge 25, 3) := by decide +kernel
theorem dX10_copyRow_9 : decode cX10_copyRow 9 = .ok (.aload_n 0, 1) := by decide +kernel
theorem dX10_copyRow_10 : decode cX10_copyRow 10 = .ok (.getfield 7, 3) := by decide +kernel
theorem dX10_copyRow_13 : decode cX10_copyRow 13 = .ok (.iload_n 2, 1) := by decide +kernel
theorem dX10_copyRow_14 : decode cX10_copyRow 14 = .ok (.iload_n 3, 1) := by decide +kernel
theorem dX10_copyRow_15 : decode cX10_copyRow 15 = .ok (.iadd, 1) := by decide +kernel
theorem dX10_copyRow_16 : decode cX10_copyRow 16 = .ok (.aload_n 0, 1) := by decide +kernel
theorem dX10_copyRow_17 : decode cX10_copyRow 17 = .ok (.getfield 7, 3) := by decide +kernel
theorem dX10_copyRow_20 : decode cX10_copyRow 20 = .ok (.iload_n 1, 1) := by decide +kernel
theorem dX10_copyRow_21 : decode cX10_copyRow 21 = .ok (.iload_n 3, 1) := by decide +kernel
theorem dX10_copyRow_22 : decode cX10_copyRow 22 = .ok (.iadd, 1) := by decide +kernel
theorem dX10_copyRow_23 : decode cX10_copyRow 23 = .ok (.iaload, 1) := by decide +kernel
theorem dX10_copyRow_24 : decode cX10_copyRow 24 = .ok (.iastore, 1) := by decide +kernel
theorem dX10_copyRow_25 : decode cX10_copyRow 25 = .ok (.iinc 3 1, 3) := by decide +kernel
theorem dX10_copyRow_28 : decode cX10_copyRow 28 = .ok (.goto (-26), 3) := by decide +kernel
theorem dX10_copyRow_31 : decode cX10_copyRow 31 = .ok (.return_, 1) := by decide +kernel
set_option maxRecDepth 100000 in
theorem B_X10_copyRow_0 {d : Nat} {h : AbH} {K : Option AbV → AbH → Prop} {x0 : Nat} {x1 : Int} {x2 : Int} (hh : Vx (d + 1) m_X10_copyRow 0 0 2 [some (vR (some x0)), some (vI x1), some (vI x2), some (vI 0)] [] h K) : Vx (d + 1) m_X10_copyRow 0 0 0 [some (vR (some x0)), some (vI x1), some (vI x2)] [] h K := by
  refine Vx.pad 1 [some (vR (some x0)), some (vI x1), some (vI x2), none] rfl ?_
  refine rr_iconst dX10_copyRow_0 rfl ⟨by decide, by decide⟩ ?_
  refine rr_istore_n (ls' := [some (vR (some x0)), some (vI x1), some (vI x2), some (vI 0)]) dX10_copyRow_1 rfl (by decide) (fun _ z => by cases z) rfl ?_
  exact hh
set_option maxRecDepth 100000 in
theorem B_X10_copyRow_2 {d : Nat} {h : AbH} {K : Option AbV → AbH → Prop} {x0 : Nat} {x1 : Int} {x2 : Int} {x3 : Int} {bc bs : Nat} (hh : ((394 ≤ x3 → K none h) ∧ (¬ (394 ≤ x3) → wpGR h (some x0) 9 0 (fun r1 => in32 (x2 + x3) ∧ wpGR h (some x0) 9 0 (fun r3 => in32 (x1 + x3) ∧ wpLI h r3 (x1 + x3) (fun n5 => wpSI h r1 (x2 + x3) n5 (fun h6 => in32 (x3 + 1) ∧ Vx (d + 1) m_X10_copyRow bc bs 2 [some (vR (some x0)), some (vI x1), some (vI x2), some (vI (x3 + 1))] [] h6 K))))))) : Vx (d + 1) m_X10_copyRow bc bs 2 [some (vR (some x0)), some (vI x1), some (vI x2), some (vI x3)] [] h K := by
  refine rr_iload_n dX10_copyRow_2 rfl rfl ?_
  refine rr_sipush dX10_copyRow_3 rfl ⟨by decide, by decide⟩ rfl ?_
  refine rr_icmp_ge (tgt := 31) dX10_copyRow_6 rfl (by decide) (fun hc6 => ?_) (fun hc6 => ?_)
  · have hh := hh.1 hc6
    exact rr_vret dX10_copyRow_31 rfl hh
  · have hh := hh.2 hc6
    refine rr_aload_n dX10_copyRow_9 rfl rfl ?_
    refine rr_getR cf_X10 (j := 0) (by decide) dX10_copyRow_10 rfl q_754 hh (fun r1 hh => ?_)
    refine rr_iload_n dX10_copyRow_13 rfl rfl ?_
    refine rr_iload_n dX10_copyRow_14 rfl rfl ?_
    obtain ⟨hz2, hh⟩ := hh
    refine rr_iadd dX10_copyRow_15 rfl hz2 ?_
    refine rr_aload_n dX10_copyRow_16 rfl rfl ?_
    refine rr_getR cf_X10 (j := 0) (by decide) dX10_copyRow_17 rfl q_754 hh (fun r3 hh => ?_)
    refine rr_iload_n dX10_copyRow_20 rfl rfl ?_
    refine rr_iload_n dX10_copyRow_21 rfl rfl ?_
    obtain ⟨hz4, hh⟩ := hh
    refine rr_iadd dX10_copyRow_22 rfl hz4 ?_
    refine rr_iald dX10_copyRow_23 rfl hh (fun n5 hh => ?_)
    refine rr_iast dX10_copyRow_24 rfl hh (fun h6 hh => ?_)
    obtain ⟨hz7, hh⟩ := hh
    refine rr_iinc (ls' := [some (vR (some x0)), some (vI x1), some (vI x2), some (vI (x3 + 1))]) dX10_copyRow_25 rfl rfl (by decide) (fun _ z => by cases z) hz7 rfl ?_
    refine rr_goto (pc' := 2) dX10_copyRow_28 (by decide) ?_
    exact hh
theorem dX10_keepPast_0 : decode cX10_keepPast 0 = .ok (.iconst 0, 1) := by decide +kernel
theorem dX10_keepPast_1 : decode cX10_keepPast 1 = .ok (.istore_n 1, 1) := by decide +kernel
theorem dX10_keepPast_2 : decode cX10_keepPast 2 = .ok (.iload_n 1, 1) := by decide +kernel
theorem dX10_keepPast_3 : decode cX10_keepPast 3 = .ok (.sipush 2758, 3) := by decide +kernel
theorem dX10_keepPast_6 : decode cX10_keepPast 6 = .ok (.if_icmp .ge 38, 3) := by decide +kernel
theorem dX10_keepPast_9 : decode cX10_keepPast 9 = .ok (.aload_n 0, 1) := by decide +kernel
theorem dX10_keepPast_10 : decode cX10_keepPast 10 = .ok (.getfield 166, 3) := by decide +kernel
theorem dX10_keepPast_13 : decode cX10_keepPast 13 = .ok (.bipush 8, 2) := by decide +kernel
theorem dX10_keepPast_15 : decode cX10_keepPast 15 = .ok (.if_icmp .ne 29, 3) := by decide +kernel
theorem dX10_keepPast_18 : decode cX10_keepPast 18 = .ok (.aload_n 0, 1) := by decide +kernel
theorem dX10_keepPast_19 : decode cX10_keepPast 19 = .ok (.getfield 7, 3) := by decide +kernel
theorem dX10_keepPast_22 : decode cX10_keepPast 22 = .ok (.sipush 394, 3) := by decide +kernel
theorem dX10_keepPast_25 : decode cX10_keepPast 25 = .ok (.iload_n 1, 1) := by decide +kernel
theorem dX10_keepPast_26 : decode cX10_keepPast 26 = .ok (.iadd, 1) := by decide +kernel
theorem dX10_keepPast_27 : decode cX10_keepPast 27 = .ok (.aload_n 0, 1) := by decide +kernel
theorem dX10_keepPast_28 : decode cX10_keepPast 28 = .ok (.getfield 7, 3) := by decide +kernel
theorem dX10_keepPast_31 : decode cX10_keepPast 31 = .ok (.sipush 788, 3) := by decide +kernel
theorem dX10_keepPast_34 : decode cX10_keepPast 34 = .ok (.iload_n 1, 1) := by decide +kernel
theorem dX10_keepPast_35 : decode cX10_keepPast 35 = .ok (.iadd, 1) := by decide +kernel
theorem dX10_keepPast_36 : decode cX10_keepPast 36 = .ok (.iaload, 1) := by decide +kernel
theorem dX10_keepPast_37 : decode cX10_keepPast 37 = .ok (.iastore, 1) := by decide +kernel
theorem dX10_keepPast_38 : decode cX10_keepPast 38 = .ok (.iinc 1 1, 3) := by decide +kernel
theorem dX10_keepPast_41 : decode cX10_keepPast 41 = .ok (.goto (-39), 3) := by decide +kernel
theorem dX10_keepPast_44 : decode cX10_keepPast 44 = .ok (.aload_n 0, 1) := by decide +kernel
theorem dX10_keepPast_45 : decode cX10_keepPast 45 = .ok (.dup, 1) := by decide +kernel
theorem dX10_keepPast_46 : decode cX10_keepPast 46 = .ok (.getfield 166, 3) := by decide +kernel
theorem dX10_keepPast_49 : decode cX10_keepPast 49 = .ok (.aload_n 0, 1) := by decide +kernel
theorem dX10_keepPast_50 : decode cX10_keepPast 50 = .ok (.getfield 166, 3) := by decide +kernel
theorem dX10_keepPast_53 : decode cX10_keepPast 53 = .ok (.bipush 8, 2) := by decide +kernel
theorem dX10_keepPast_55 : decode cX10_keepPast 55 = .ok (.if_icmp .ne 7, 3) := by decide +kernel
theorem dX10_keepPast_58 : decode cX10_keepPast 58 = .ok (.iconst 1, 1) := by decide +kernel
theorem dX10_keepPast_59 : decode cX10_keepPast 59 = .ok (.goto 4, 3) := by decide +kernel
theorem dX10_keepPast_62 : decode cX10_keepPast 62 = .ok (.iconst 0, 1) := by decide +kernel
theorem dX10_keepPast_63 : decode cX10_keepPast 63 = .ok (.isub, 1) := by decide +kernel
theorem dX10_keepPast_64 : decode cX10_keepPast 64 = .ok (.putfield 166, 3) := by decide +kernel
theorem dX10_keepPast_67 : decode cX10_keepPast 67 = .ok (.aload_n 0, 1) := by decide +kernel
theorem dX10_keepPast_68 : decode cX10_keepPast 68 = .ok (.iconst 0, 1) := by decide +kernel
theorem dX10_keepPast_69 : decode cX10_keepPast 69 = .ok (.sipush 394, 3) := by decide +kernel
theorem dX10_keepPast_72 : decode cX10_keepPast 72 = .ok (.sipush 394, 3) := by decide +kernel
theorem dX10_keepPast_75 : decode cX10_keepPast 75 = .ok (.aload_n 0, 1) := by decide +kernel
theorem dX10_keepPast_76 : decode cX10_keepPast 76 = .ok (.getfield 166, 3) := by decide +kernel
theorem dX10_keepPast_79 : decode cX10_keepPast 79 = .ok (.imul, 1) := by decide +kernel
theorem dX10_keepPast_80 : decode cX10_keepPast 80 = .ok (.iadd, 1) := by decide +kernel
theorem dX10_keepPast_81 : decode cX10_keepPast 81 = .ok (.invokevirtual 213, 3) := by decide +kernel
theorem dX10_keepPast_84 : decode cX10_keepPast 84 = .ok (.aload_n 0, 1) := by decide +kernel
theorem dX10_keepPast_85 : decode cX10_keepPast 85 = .ok (.dup, 1) := by decide +kernel
theorem dX10_keepPast_86 : decode cX10_keepPast 86 = .ok (.getfield 166, 3) := by decide +kernel
theorem dX10_keepPast_89 : decode cX10_keepPast 89 = .ok (.iconst 1, 1) := by decide +kernel
theorem dX10_keepPast_90 : decode cX10_keepPast 90 = .ok (.iadd, 1) := by decide +kernel
theorem dX10_keepPast_91 : decode cX10_keepPast 91 = .ok (.putfield 166, 3) := by decide +kernel
theorem dX10_keepPast_94 : decode cX10_keepPast 94 = .ok (.return_, 1) := by decide +kernel
set_option maxRecDepth 100000 in
theorem B_X10_keepPast_0 {d : Nat} {h : AbH} {K : Option AbV → AbH → Prop} {x0 : Nat} (hh : Vx (d + 1) m_X10_keepPast 0 0 2 [some (vR (some x0)), some (vI 0)] [] h K) : Vx (d + 1) m_X10_keepPast 0 0 0 [some (vR (some x0))] [] h K := by
  refine Vx.pad 1 [some (vR (some x0)), none] rfl ?_
  refine rr_iconst dX10_keepPast_0 rfl ⟨by decide, by decide⟩ ?_
  refine rr_istore_n (ls' := [some (vR (some x0)), some (vI 0)]) dX10_keepPast_1 rfl (by decide) (fun _ z => by cases z) rfl ?_
  exact hh
set_option maxRecDepth 100000 in
theorem B_X10_keepPast_2 {d : Nat} {h : AbH} {K : Option AbV → AbH → Prop} {x0 : Nat} {x1 : Int} {bc bs : Nat} (hh : ((2758 ≤ x1 → Vx (d + 1) m_X10_keepPast bc bs 44 [some (vR (some x0)), some (vI x1)] [] h K) ∧ (¬ (2758 ≤ x1) → wpGI h (some x0) 9 1 (fun n1 => ((n1 ≠ 8 → Vx (d + 1) m_X10_keepPast bc bs 44 [some (vR (some x0)), some (vI x1)] [] h K) ∧ (¬ (n1 ≠ 8) → wpGR h (some x0) 9 0 (fun r2 => in32 (394 + x1) ∧ wpGR h (some x0) 9 0 (fun r4 => in32 (788 + x1) ∧ wpLI h r4 (788 + x1) (fun n6 => wpSI h r2 (394 + x1) n6 (fun h7 => in32 (x1 + 1) ∧ Vx (d + 1) m_X10_keepPast bc bs 2 [some (vR (some x0)), some (vI (x1 + 1))] [] h7 K)))))))))) : Vx (d + 1) m_X10_keepPast bc bs 2 [some (vR (some x0)), some (vI x1)] [] h K := by
  refine rr_iload_n dX10_keepPast_2 rfl rfl ?_
  refine rr_sipush dX10_keepPast_3 rfl ⟨by decide, by decide⟩ rfl ?_
  refine rr_icmp_ge (tgt := 44) dX10_keepPast_6 rfl (by decide) (fun hc6 => ?_) (fun hc6 => ?_)
  · have hh := hh.1 hc6
    exact hh
  · have hh := hh.2 hc6
    refine rr_aload_n dX10_keepPast_9 rfl rfl ?_
    refine rr_getI cf_X10 (j := 1) (by decide) dX10_keepPast_10 rfl q_755 hh (fun n1 hh => ?_)
    refine rr_bipush dX10_keepPast_13 rfl ⟨by decide, by decide⟩ rfl ?_
    refine rr_icmp_ne (tgt := 44) dX10_keepPast_15 rfl (by decide) (fun hc15 => ?_) (fun hc15 => ?_)
    · have hh := hh.1 hc15
      exact hh
    · have hh := hh.2 hc15
      refine rr_aload_n dX10_keepPast_18 rfl rfl ?_
      refine rr_getR cf_X10 (j := 0) (by decide) dX10_keepPast_19 rfl q_754 hh (fun r2 hh => ?_)
      refine rr_sipush dX10_keepPast_22 rfl ⟨by decide, by decide⟩ rfl ?_
      refine rr_iload_n dX10_keepPast_25 rfl rfl ?_
      obtain ⟨hz3, hh⟩ := hh
      refine rr_iadd dX10_keepPast_26 rfl hz3 ?_
      refine rr_aload_n dX10_keepPast_27 rfl rfl ?_
      refine rr_getR cf_X10 (j := 0) (by decide) dX10_keepPast_28 rfl q_754 hh (fun r4 hh => ?_)
      refine rr_sipush dX10_keepPast_31 rfl ⟨by decide, by decide⟩ rfl ?_
      refine rr_iload_n dX10_keepPast_34 rfl rfl ?_
      obtain ⟨hz5, hh⟩ := hh
      refine rr_iadd dX10_keepPast_35 rfl hz5 ?_
      refine rr_iald dX10_keepPast_36 rfl hh (fun n6 hh => ?_)
      refine rr_iast dX10_keepPast_37 rfl hh (fun h7 hh => ?_)
      obtain ⟨hz8, hh⟩ := hh
      refine rr_iinc (ls' := [some (vR (some x0)), some (vI (x1 + 1))]) dX10_keepPast_38 rfl rfl (by decide) (fun _ z => by cases z) hz8 rfl ?_
      refine rr_goto (pc' := 2) dX10_keepPast_41 (by decide) ?_
      exact hh
set_option maxRecDepth 100000 in
theorem B_X10_keepPast_44 {d : Nat} {h : AbH} {K : Option AbV → AbH → Prop} {x0 : Nat} {x1 : Int} {bc bs : Nat} (hh : wpGI h (some x0) 9 1 (fun n1 => wpGI h (some x0) 9 1 (fun n2 => ((n2 ≠ 8 → in32 (n1 - 0) ∧ wpP h (some x0) 9 1 (vI (n1 - 0)) (fun h4 => wpGI h4 (some x0) 9 1 (fun n5 => in32 (394 * n5) ∧ in32 (394 + (394 * n5)) ∧ wpCV h4 (some x0) 9 (fun b12 => Vm d m_X10_copyRow [vR (some b12), vI 0, vI (394 + (394 * n5))] h4 (kV (fun h8 => wpGI h8 (some x0) 9 1 (fun n9 => in32 (n9 + 1) ∧ wpP h8 (some x0) 9 1 (vI (n9 + 1)) (fun h11 => K none h11)))))))) ∧ (¬ (n2 ≠ 8) → in32 (n1 - 1) ∧ wpP h (some x0) 9 1 (vI (n1 - 1)) (fun h14 => wpGI h14 (some x0) 9 1 (fun n15 => in32 (394 * n15) ∧ in32 (394 + (394 * n15)) ∧ wpCV h14 (some x0) 9 (fun b22 => Vm d m_X10_copyRow [vR (some b22), vI 0, vI (394 + (394 * n15))] h14 (kV (fun h18 => wpGI h18 (some x0) 9 1 (fun n19 => in32 (n19 + 1) ∧ wpP h18 (some x0) 9 1 (vI (n19 + 1)) (fun h21 => K none h21)))))))))))) : Vx (d + 1) m_X10_keepPast bc bs 44 [some (vR (some x0)), some (vI x1)] [] h K := by
  refine rr_aload_n dX10_keepPast_44 rfl rfl ?_
  refine rr_dup dX10_keepPast_45 rfl rfl ?_
  refine rr_getI cf_X10 (j := 1) (by decide) dX10_keepPast_46 rfl q_755 hh (fun n1 hh => ?_)
  refine rr_aload_n dX10_keepPast_49 rfl rfl ?_
  refine rr_getI cf_X10 (j := 1) (by decide) dX10_keepPast_50 rfl q_755 hh (fun n2 hh => ?_)
  refine rr_bipush dX10_keepPast_53 rfl ⟨by decide, by decide⟩ rfl ?_
  refine rr_icmp_ne (tgt := 62) dX10_keepPast_55 rfl (by decide) (fun hc55 => ?_) (fun hc55 => ?_)
  · have hh := hh.1 hc55
    refine rr_iconst dX10_keepPast_62 rfl ⟨by decide, by decide⟩ ?_
    obtain ⟨hz3, hh⟩ := hh
    refine rr_isub dX10_keepPast_63 rfl hz3 ?_
    refine rr_put cf_X10 (j := 1) (by decide) dX10_keepPast_64 rfl q_755 rfl (fty := .int) (by decide +kernel) rfl rfl hh (fun h4 hh => ?_)
    refine rr_aload_n dX10_keepPast_67 rfl rfl ?_
    refine rr_iconst dX10_keepPast_68 rfl ⟨by decide, by decide⟩ ?_
    refine rr_sipush dX10_keepPast_69 rfl ⟨by decide, by decide⟩ rfl ?_
    refine rr_sipush dX10_keepPast_72 rfl ⟨by decide, by decide⟩ rfl ?_
    refine rr_aload_n dX10_keepPast_75 rfl rfl ?_
    refine rr_getI cf_X10 (j := 1) (by decide) dX10_keepPast_76 rfl q_755 hh (fun n5 hh => ?_)
    obtain ⟨hz6, hh⟩ := hh
    refine rr_imul dX10_keepPast_79 rfl hz6 ?_
    obtain ⟨hz7, hh⟩ := hh
    refine rr_iadd dX10_keepPast_80 rfl hz7 ?_
    refine rr_callW (bc' := bc) (bs' := bs) (q := (some x0)) (av := [vI 0, vI (394 + (394 * n5))]) (st := []) mf_X10_copyRow dX10_keepPast_81 rfl q_948 q_950 qs_43 ⟨_, _, rfl⟩ rfl (by decide) (Nat.le_refl _) (Nat.le_refl _) hh (rr_kV fun h8 hh => ?_)
    refine rr_aload_n dX10_keepPast_84 rfl rfl ?_
    refine rr_dup dX10_keepPast_85 rfl rfl ?_
    refine rr_getI cf_X10 (j := 1) (by decide) dX10_keepPast_86 rfl q_755 hh (fun n9 hh => ?_)
    refine rr_iconst dX10_keepPast_89 rfl ⟨by decide, by decide⟩ ?_
    obtain ⟨hz10, hh⟩ := hh
    refine rr_iadd dX10_keepPast_90 rfl hz10 ?_
    refine rr_put cf_X10 (j := 1) (by decide) dX10_keepPast_91 rfl q_755 rfl (fty := .int) (by decide +kernel) rfl rfl hh (fun h11 hh => ?_)
    exact rr_vret dX10_keepPast_94 rfl hh
  · have hh := hh.2 hc55
    refine rr_iconst dX10_keepPast_58 rfl ⟨by decide, by decide⟩ ?_
    refine rr_goto (pc' := 63) dX10_keepPast_59 (by decide) ?_
    obtain ⟨hz13, hh⟩ := hh
    refine rr_isub dX10_keepPast_63 rfl hz13 ?_
    refine rr_put cf_X10 (j := 1) (by decide) dX10_keepPast_64 rfl q_755 rfl (fty := .int) (by decide +kernel) rfl rfl hh (fun h14 hh => ?_)
    refine rr_aload_n dX10_keepPast_67 rfl rfl ?_
    refine rr_iconst dX10_keepPast_68 rfl ⟨by decide, by decide⟩ ?_
    refine rr_sipush dX10_keepPast_69 rfl ⟨by decide, by decide⟩ rfl ?_
    refine rr_sipush dX10_keepPast_72 rfl ⟨by decide, by decide⟩ rfl ?_
    refine rr_aload_n dX10_keepPast_75 rfl rfl ?_
    refine rr_getI cf_X10 (j := 1) (by decide) dX10_keepPast_76 rfl q_755 hh (fun n15 hh => ?_)
    obtain ⟨hz16, hh⟩ := hh
    refine rr_imul dX10_keepPast_79 rfl hz16 ?_
    obtain ⟨hz17, hh⟩ := hh
    refine rr_iadd dX10_keepPast_80 rfl hz17 ?_
    refine rr_callW (bc' := bc) (bs' := bs) (q := (some x0)) (av := [vI 0, vI (394 + (394 * n15))]) (st := []) mf_X10_copyRow dX10_keepPast_81 rfl q_948 q_950 qs_43 ⟨_, _, rfl⟩ rfl (by decide) (Nat.le_refl _) (Nat.le_refl _) hh (rr_kV fun h18 hh => ?_)
    refine rr_aload_n dX10_keepPast_84 rfl rfl ?_
    refine rr_dup dX10_keepPast_85 rfl rfl ?_
    refine rr_getI cf_X10 (j := 1) (by decide) dX10_keepPast_86 rfl q_755 hh (fun n19 hh => ?_)
    refine rr_iconst dX10_keepPast_89 rfl ⟨by decide, by decide⟩ ?_
    obtain ⟨hz20, hh⟩ := hh
    refine rr_iadd dX10_keepPast_90 rfl hz20 ?_
    refine rr_put cf_X10 (j := 1) (by decide) dX10_keepPast_91 rfl q_755 rfl (fty := .int) (by decide +kernel) rfl rfl hh (fun h21 hh => ?_)
    exact rr_vret dX10_keepPast_94 rfl hh
theorem dX10_puts_0 : decode cX10_puts 0 = .ok (.aload_n 0, 1) := by decide +kernel
theorem dX10_puts_1 : decode cX10_puts 1 = .ok (.getfield 7, 3) := by decide +kernel
theorem dX10_puts_4 : decode cX10_puts 4 = .ok (.iconst 0, 1) := by decide +kernel
theorem dX10_puts_5 : decode cX10_puts 5 = .ok (.iaload, 1) := by decide +kernel
theorem dX10_puts_6 : decode cX10_puts 6 = .ok (.istore 7, 2) := by decide +kernel
theorem dX10_puts_8 : decode cX10_puts 8 = .ok (.iload 7, 2) := by decide +kernel
theorem dX10_puts_10 : decode cX10_puts 10 = .ok (.ifCond .le 89, 3) := by decide +kernel
theorem dX10_puts_13 : decode cX10_puts 13 = .ok (.aload_n 0, 1) := by decide +kernel
theorem dX10_puts_14 : decode cX10_puts 14 = .ok (.iload 7, 2) := by decide +kernel
theorem dX10_puts_16 : decode cX10_puts 16 = .ok (.iconst 1, 1) := by decide +kernel
theorem dX10_puts_17 : decode cX10_puts 17 = .ok (.isub, 1) := by decide +kernel
theorem dX10_puts_18 : decode cX10_puts 18 = .ok (.iconst 1, 1) := by decide +kernel
theorem dX10_puts_19 : decode cX10_puts 19 = .ok (.invokevirtual 156, 3) := by decide +kernel
theorem dX10_puts_22 : decode cX10_puts 22 = .ok (.iload_n 2, 1) := by decide +kernel
theorem dX10_puts_23 : decode cX10_puts 23 = .ok (.if_icmp .gt 29, 3) := by decide +kernel
theorem dX10_puts_26 : decode cX10_puts 26 = .ok (.aload_n 0, 1) := by decide +kernel
theorem dX10_puts_27 : decode cX10_puts 27 = .ok (.iload 7, 2) := by decide +kernel
theorem dX10_puts_29 : decode cX10_puts 29 = .ok (.iconst 1, 1) := by decide +kernel
theorem dX10_puts_30 : decode cX10_puts 30 = .ok (.isub, 1) := by decide +kernel
theorem dX10_puts_31 : decode cX10_puts 31 = .ok (.iconst 1, 1) := by decide +kernel
theorem dX10_puts_32 : decode cX10_puts 32 = .ok (.invokevirtual 156, 3) := by decide +kernel
theorem dX10_puts_35 : decode cX10_puts 35 = .ok (.iload_n 2, 1) := by decide +kernel
theorem dX10_puts_36 : decode cX10_puts 36 = .ok (.if_icmp .ne 63, 3) := by decide +kernel
theorem dX10_puts_39 : decode cX10_puts 39 = .ok (.aload_n 0, 1) := by decide +kernel
theorem dX10_puts_40 : decode cX10_puts 40 = .ok (.iload 7, 2) := by decide +kernel
theorem dX10_puts_42 : decode cX10_puts 42 = .ok (.iconst 1, 1) := by decide +kernel
theorem dX10_puts_43 : decode cX10_puts 43 = .ok (.isub, 1) := by decide +kernel
theorem dX10_puts_44 : decode cX10_puts 44 = .ok (.iconst 0, 1) := by decide +kernel
theorem dX10_puts_45 : decode cX10_puts 45 = .ok (.invokevirtual 156, 3) := by decide +kernel
theorem dX10_puts_48 : decode cX10_puts 48 = .ok (.iload_n 1, 1) := by decide +kernel
theorem dX10_puts_49 : decode cX10_puts 49 = .ok (.if_icmp .le 50, 3) := by decide +kernel
theorem dX10_puts_52 : decode cX10_puts 52 = .ok (.iconst 0, 1) := by decide +kernel
theorem dX10_puts_53 : decode cX10_puts 53 = .ok (.istore 8, 2) := by decide +kernel
theorem dX10_puts_55 : decode cX10_puts 55 = .ok (.iload 8, 2) := by decide +kernel
theorem dX10_puts_57 : decode cX10_puts 57 = .ok (.bipush 6, 2) := by decide +kernel
theorem dX10_puts_59 : decode cX10_puts 59 = .ok (.if_icmp .ge 34, 3) := by decide +kernel
theorem dX10_puts_62 : decode cX10_puts 62 = .ok (.aload_n 0, 1) := by decide +kernel
theorem dX10_puts_63 : decode cX10_puts 63 = .ok (.getfield 7, 3) := by decide +kernel
theorem dX10_puts_66 : decode cX10_puts 66 = .ok (.iconst 2, 1) := by decide +kernel
theorem dX10_puts_67 : decode cX10_puts 67 = .ok (.bipush 6, 2) := by decide +kernel
theorem dX10_puts_69 : decode cX10_puts 69 = .ok (.iload 7, 2) := by decide +kernel
theorem dX10_puts_71 : decode cX10_puts 71 = .ok (.imul, 1) := by decide +kernel
theorem dX10_puts_72 : decode cX10_puts 72 = .ok (.iadd, 1) := by decide +kernel
theorem dX10_puts_73 : decode cX10_puts 73 = .ok (.iload 8, 2) := by decide +kernel
theorem dX10_puts_75 : decode cX10_puts 75 = .ok (.iadd, 1) := by decide +kernel
theorem dX10_puts_76 : decode cX10_puts 76 = .ok (.aload_n 0, 1) := by decide +kernel
theorem dX10_puts_77 : decode cX10_puts 77 = .ok (.iload 7, 2) := by decide +kernel
theorem dX10_puts_79 : decode cX10_puts 79 = .ok (.iconst 1, 1) := by decide +kernel
theorem dX10_puts_80 : decode cX10_puts 80 = .ok (.isub, 1) := by decide +kernel
theorem dX10_puts_81 : decode cX10_puts 81 = .ok (.iload 8, 2) := by decide +kernel
theorem dX10_puts_83 : decode cX10_puts 83 = .ok (.invokevirtual 156, 3) := by decide +kernel
theorem dX10_puts_86 : decode cX10_puts 86 = .ok (.iastore, 1) := by decide +kernel
theorem dX10_puts_87 : decode cX10_puts 87 = .ok (.iinc 8 1, 3) := by decide +kernel
theorem dX10_puts_90 : decode cX10_puts 90 = .ok (.goto (-35), 3) := by decide +kernel
theorem dX10_puts_93 : decode cX10_puts 93 = .ok (.iinc 7 (-1), 3) := by decide +kernel
theorem dX10_puts_96 : decode cX10_puts 96 = .ok (.goto (-88), 3) := by decide +kernel
theorem dX10_puts_99 : decode cX10_puts 99 = .ok (.aload_n 0, 1) := by decide +kernel
theorem dX10_puts_100 : decode cX10_puts 100 = .ok (.getfield 7, 3) := by decide +kernel
theorem dX10_puts_103 : decode cX10_puts 103 = .ok (.iconst 2, 1) := by decide +kernel
theorem dX10_puts_104 : decode cX10_puts 104 = .ok (.bipush 6, 2) := by decide +kernel
theorem dX10_puts_106 : decode cX10_puts 106 = .ok (.iload 7, 2) := by decide +kernel
theorem dX10_puts_108 : decode cX10_puts 108 = .ok (.imul, 1) := by decide +kernel
theorem dX10_puts_109 : decode cX10_puts 109 = .ok (.iadd, 1) := by decide +kernel
theorem dX10_puts_110 : decode cX10_puts 110 = .ok (.iload_n 1, 1) := by decide +kernel
theorem dX10_puts_111 : decode cX10_puts 111 = .ok (.iastore, 1) := by decide +kernel
theorem dX10_puts_112 : decode cX10_puts 112 = .ok (.aload_n 0, 1) := by decide +kernel
theorem dX10_puts_113 : decode cX10_puts 113 = .ok (.getfield 7, 3) := by decide +kernel
theorem dX10_puts_116 : decode cX10_puts 116 = .ok (.iconst 2, 1) := by decide +kernel
theorem dX10_puts_117 : decode cX10_puts 117 = .ok (.bipush 6, 2) := by decide +kernel
theorem dX10_puts_119 : decode cX10_puts 119 = .ok (.iload 7, 2) := by decide +kernel
theorem dX10_puts_121 : decode cX10_puts 121 = .ok (.imul, 1) := by decide +kernel
theorem dX10_puts_122 : decode cX10_puts 122 = .ok (.iadd, 1) := by decide +kernel
theorem dX10_puts_123 : decode cX10_puts 123 = .ok (.iconst 1, 1) := by decide +kernel
theorem dX10_puts_124 : decode cX10_puts 124 = .ok (.iadd, 1) := by decide +kernel
theorem dX10_puts_125 : decode cX10_puts 125 = .ok (.iload_n 2, 1) := by decide +kernel
theorem dX10_puts_126 : decode cX10_puts 126 = .ok (.iastore, 1) := by decide +kernel
theorem dX10_puts_127 : decode cX10_puts 127 = .ok (.aload_n 0, 1) := by decide +kernel
theorem dX10_puts_128 : decode cX10_puts 128 = .ok (.getfield 7, 3) := by decide +kernel
theorem dX10_puts_131 : decode cX10_puts 131 = .ok (.iconst 2, 1) := by decide +kernel
theorem dX10_puts_132 : decode cX10_puts 132 = .ok (.bipush 6, 2) := by decide +kernel
theorem dX10_puts_134 : decode cX10_puts 134 = .ok (.iload 7, 2) := by decide +kernel
theorem dX10_puts_136 : decode cX10_puts 136 = .ok (.imul, 1) := by decide +kernel
theorem dX10_puts_137 : decode cX10_puts 137 = .ok (.iadd, 1) := by decide +kernel
theorem dX10_puts_138 : decode cX10_puts 138 = .ok (.iconst 2, 1) := by decide +kernel
theorem dX10_puts_139 : decode cX10_puts 139 = .ok (.iadd, 1) := by decide +kernel
theorem dX10_puts_140 : decode cX10_puts 140 = .ok (.iload_n 3, 1) := by decide +kernel
theorem dX10_puts_141 : decode cX10_puts 141 = .ok (.iastore, 1) := by decide +kernel
theorem dX10_puts_142 : decode cX10_puts 142 = .ok (.aload_n 0, 1) := by decide +kernel
theorem dX10_puts_143 : decode cX10_puts 143 = .ok (.getfield 7, 3) := by decide +kernel
theorem dX10_puts_146 : decode cX10_puts 146 = .ok (.iconst 2, 1) := by decide +kernel
theorem dX10_puts_147 : decode cX10_puts 147 = .ok (.bipush 6, 2) := by decide +kernel
theorem dX10_puts_149 : decode cX10_puts 149 = .ok (.iload 7, 2) := by decide +kernel
theorem dX10_puts_151 : decode cX10_puts 151 = .ok (.imul, 1) := by decide +kernel
theorem dX10_puts_152 : decode cX10_puts 152 = .ok (.iadd, 1) := by decide +kernel
theorem dX10_puts_153 : decode cX10_puts 153 = .ok (.iconst 3, 1) := by decide +kernel
theorem dX10_puts_154 : decode cX10_puts 154 = .ok (.iadd, 1) := by decide +kernel
theorem dX10_puts_155 : decode cX10_puts 155 = .ok (.iload 4, 2) := by decide +kernel
theorem dX10_puts_157 : decode cX10_puts 157 = .ok (.iastore, 1) := by decide +kernel
theorem dX10_puts_158 : decode cX10_puts 158 = .ok (.aload_n 0, 1) := by decide +kernel
theorem dX10_puts_159 : decode cX10_puts 159 = .ok (.getfield 7, 3) := by decide +kernel
theorem dX10_puts_162 : decode cX10_puts 162 = .ok (.iconst 2, 1) := by decide +kernel
theorem dX10_puts_163 : decode cX10_puts 163 = .ok (.bipush 6, 2) := by decide +kernel
theorem dX10_puts_165 : decode cX10_puts 165 = .ok (.iload 7, 2) := by decide +kernel
theorem dX10_puts_167 : decode cX10_puts 167 = .ok (.imul, 1) := by decide +kernel
theorem dX10_puts_168 : decode cX10_puts 168 = .ok (.iadd, 1) := by decide +kernel
theorem dX10_puts_169 : decode cX10_puts 169 = .ok (.iconst 4, 1) := by decide +kernel
theorem dX10_puts_170 : decode cX10_puts 170 = .ok (.iadd, 1) := by decide +kernel
theorem dX10_puts_171 : decode cX10_puts 171 = .ok (.iload 5, 2) := by decide +kernel
theorem dX10_puts_173 : decode cX10_puts 173 = .ok (.iastore, 1) := by decide +kernel
theorem dX10_puts_174 : decode cX10_puts 174 = .ok (.aload_n 0, 1) := by decide +kernel
theorem dX10_puts_175 : decode cX10_puts 175 = .ok (.getfield 7, 3) := by decide +kernel
theorem dX10_puts_178 : decode cX10_puts 178 = .ok (.iconst 2, 1) := by decide +kernel
theorem dX10_puts_179 : decode cX10_puts 179 = .ok (.bipush 6, 2) := by decide +kernel
theorem dX10_puts_181 : decode cX10_puts 181 = .ok (.iload 7, 2) := by decide +kernel
theorem dX10_puts_183 : decode cX10_puts 183 = .ok (.imul, 1) := by decide +kernel
theorem dX10_puts_184 : decode cX10_puts 184 = .ok (.iadd, 1) := by decide +kernel
theorem dX10_puts_185 : decode cX10_puts 185 = .ok (.iconst 5, 1) := by decide +kernel
theorem dX10_puts_186 : decode cX10_puts 186 = .ok (.iadd, 1) := by decide +kernel
theorem dX10_puts_187 : decode cX10_puts 187 = .ok (.iload 5, 2) := by decide +kernel
theorem dX10_puts_189 : decode cX10_puts 189 = .ok (.ifCond .ne 7, 3) := by decide +kernel
theorem dX10_puts_192 : decode cX10_puts 192 = .ok (.iconst (-1), 1) := by decide +kernel
theorem dX10_puts_193 : decode cX10_puts 193 = .ok (.goto 5, 3) := by decide +kernel
theorem dX10_puts_196 : decode cX10_puts 196 = .ok (.iload 6, 2) := by decide +kernel
theorem dX10_puts_198 : decode cX10_puts 198 = .ok (.iastore, 1) := by decide +kernel
theorem dX10_puts_199 : decode cX10_puts 199 = .ok (.aload_n 0, 1) := by decide +kernel
theorem dX10_puts_200 : decode cX10_puts 200 = .ok (.getfield 7, 3) := by decide +kernel
theorem dX10_puts_203 : decode cX10_puts 203 = .ok (.iconst 0, 1) := by decide +kernel
theorem dX10_puts_204 : decode cX10_puts 204 = .ok (.dup2, 1) := by decide +kernel
theorem dX10_puts_205 : decode cX10_puts 205 = .ok (.iaload, 1) := by decide +kernel
theorem dX10_puts_206 : decode cX10_puts 206 = .ok (.iconst 1, 1) := by decide +kernel
theorem dX10_puts_207 : decode cX10_puts 207 = .ok (.iadd, 1) := by decide +kernel
theorem dX10_puts_208 : decode cX10_puts 208 = .ok (.iastore, 1) := by decide +kernel
theorem dX10_puts_209 : decode cX10_puts 209 = .ok (.iload 7, 2) := by decide +kernel
theorem dX10_puts_211 : decode cX10_puts 211 = .ok (.ireturn, 1) := by decide +kernel
set_option maxRecDepth 100000 in
theorem B_X10_puts_0 {d : Nat} {h : AbH} {K : Option AbV → AbH → Prop} {x0 : Nat} {x1 : Int} {x2 : Int} {x3 : Int} {x4 : Int} {x5 : Int} {x6 : Int} (hh : wpGR h (some x0) 9 0 (fun r1 => wpLI h r1 0 (fun n2 => Vx (d + 1) m_X10_puts 0 0 8 [some (vR (some x0)), some (vI x1), some (vI x2), some (vI x3), some (vI x4), some (vI x5), some (vI x6), some (vI n2), none] [] h K))) : Vx (d + 1) m_X10_puts 0 0 0 [some (vR (some x0)), some (vI x1), some (vI x2), some (vI x3), some (vI x4), some (vI x5), some (vI x6)] [] h K := by
  refine Vx.pad 2 [some (vR (some x0)), some (vI x1), some (vI x2), some (vI x3), some (vI x4), some (vI x5), some (vI x6), none, none] rfl ?_
  refine rr_aload_n dX10_puts_0 rfl rfl ?_
  refine rr_getR cf_X10 (j := 0) (by decide) dX10_puts_1 rfl q_754 hh (fun r1 hh => ?_)
  refine rr_iconst dX10_puts_4 rfl ⟨by decide, by decide⟩ ?_
  refine rr_iald dX10_puts_5 rfl hh (fun n2 hh => ?_)
  refine rr_istore (ls' := [some (vR (some x0)), some (vI x1), some (vI x2), some (vI x3), some (vI x4), some (vI x5), some (vI x6), some (vI n2), none]) dX10_puts_6 rfl (by decide) (fun _ z => by cases z) rfl ?_
  exact hh
set_option maxRecDepth 100000 in
theorem B_X10_puts_8 {d : Nat} {h : AbH} {K : Option AbV → AbH → Prop} {x0 : Nat} {x1 : Int} {x2 : Int} {x3 : Int} {x4 : Int} {x5 : Int} {x6 : Int} {x7 : Int} {bc bs : Nat} (hh : ((x7 ≤ 0 → Vx (d + 1) m_X10_puts bc bs 99 [some (vR (some x0)), some (vI x1), some (vI x2), some (vI x3), some (vI x4), some (vI x5), some (vI x6), some (vI x7), none] [] h K) ∧ (¬ (x7 ≤ 0) → in32 (x7 - 1) ∧ wpCV h (some x0) 9 (fun b12 => Vm d m_X10_lawOf [vR (some b12), vI (x7 - 1), vI 1] h (kI (fun n3 h2 => ((x2 < n3 → Vx (d + 1) m_X10_puts bc bs 55 [some (vR (some x0)), some (vI x1), some (vI x2), some (vI x3), some (vI x4), some (vI x5), some (vI x6), some (vI x7), some (vI 0)] [] h2 K) ∧ (¬ (x2 < n3) → in32 (x7 - 1) ∧ wpCV h2 (some x0) 9 (fun b11 => Vm d m_X10_lawOf [vR (some b11), vI (x7 - 1), vI 1] h2 (kI (fun n6 h5 => ((n6 ≠ x2 → Vx (d + 1) m_X10_puts bc bs 99 [some (vR (some x0)), some (vI x1), some (vI x2), some (vI x3), some (vI x4), some (vI x5), some (vI x6), some (vI x7), none] [] h5 K) ∧ (¬ (n6 ≠ x2) → in32 (x7 - 1) ∧ wpCV h5 (some x0) 9 (fun b10 => Vm d m_X10_lawOf [vR (some b10), vI (x7 - 1), vI 0] h5 (kI (fun n9 h8 => ((n9 ≤ x1 → Vx (d + 1) m_X10_puts bc bs 99 [some (vR (some x0)), some (vI x1), some (vI x2), some (vI x3), some (vI x4), some (vI x5), some (vI x6), some (vI x7), none] [] h8 K) ∧ (¬ (n9 ≤ x1) → Vx (d + 1) m_X10_puts bc bs 55 [some (vR (some x0)), some (vI x1), some (vI x2), some (vI x3), some (vI x4), some (vI x5), some (vI x6), some (vI x7), some (vI 0)] [] h8 K)))))))))))))))))) : Vx (d + 1) m_X10_puts bc bs 8 [some (vR (some x0)), some (vI x1), some (vI x2), some (vI x3), some (vI x4), some (vI x5), some (vI x6), some (vI x7), none] [] h K := by
  refine rr_iload dX10_puts_8 rfl rfl ?_
  refine rr_if_le (tgt := 99) dX10_puts_10 rfl (by decide) (fun hc10 => ?_) (fun hc10 => ?_)
  · have hh := hh.1 hc10
    exact hh
  · have hh := hh.2 hc10
    refine rr_aload_n dX10_puts_13 rfl rfl ?_
    refine rr_iload dX10_puts_14 rfl rfl ?_
    refine rr_iconst dX10_puts_16 rfl ⟨by decide, by decide⟩ ?_
    obtain ⟨hz1, hh⟩ := hh
    refine rr_isub dX10_puts_17 rfl hz1 ?_
    refine rr_iconst dX10_puts_18 rfl ⟨by decide, by decide⟩ ?_
    refine rr_callW (bc' := bc) (bs' := bs) (q := (some x0)) (av := [vI (x7 - 1), vI 1]) (st := []) mf_X10_lawOf dX10_puts_19 rfl q_848 q_850 qs_26 ⟨_, _, rfl⟩ rfl (by decide) (Nat.le_refl _) (Nat.le_refl _) hh (rr_kI fun n3 h2 hh => ?_)
    refine rr_iload_n dX10_puts_22 rfl rfl ?_
    refine rr_icmp_gt (tgt := 52) dX10_puts_23 rfl (by decide) (fun hc23 => ?_) (fun hc23 => ?_)
    · have hh := hh.1 hc23
      refine rr_iconst dX10_puts_52 rfl ⟨by decide, by decide⟩ ?_
      refine rr_istore (ls' := [some (vR (some x0)), some (vI x1), some (vI x2), some (vI x3), some (vI x4), some (vI x5), some (vI x6), some (vI x7), some (vI 0)]) dX10_puts_53 rfl (by decide) (fun _ z => by cases z) rfl ?_
      exact hh
    · have hh := hh.2 hc23
      refine rr_aload_n dX10_puts_26 rfl rfl ?_
      refine rr_iload dX10_puts_27 rfl rfl ?_
      refine rr_iconst dX10_puts_29 rfl ⟨by decide, by decide⟩ ?_
      obtain ⟨hz4, hh⟩ := hh
      refine rr_isub dX10_puts_30 rfl hz4 ?_
      refine rr_iconst dX10_puts_31 rfl ⟨by decide, by decide⟩ ?_
      refine rr_callW (bc' := bc) (bs' := bs) (q := (some x0)) (av := [vI (x7 - 1), vI 1]) (st := []) mf_X10_lawOf dX10_puts_32 rfl q_848 q_850 qs_26 ⟨_, _, rfl⟩ rfl (by decide) (Nat.le_refl _) (Nat.le_refl _) hh (rr_kI fun n6 h5 hh => ?_)
      refine rr_iload_n dX10_puts_35 rfl rfl ?_
      refine rr_icmp_ne (tgt := 99) dX10_puts_36 rfl (by decide) (fun hc36 => ?_) (fun hc36 => ?_)
      · have hh := hh.1 hc36
        exact hh
      · have hh := hh.2 hc36
        refine rr_aload_n dX10_puts_39 rfl rfl ?_
        refine rr_iload dX10_puts_40 rfl rfl ?_
        refine rr_iconst dX10_puts_42 rfl ⟨by decide, by decide⟩ ?_
        obtain ⟨hz7, hh⟩ := hh
        refine rr_isub dX10_puts_43 rfl hz7 ?_
        refine rr_iconst dX10_puts_44 rfl ⟨by decide, by decide⟩ ?_
        refine rr_callW (bc' := bc) (bs' := bs) (q := (some x0)) (av := [vI (x7 - 1), vI 0]) (st := []) mf_X10_lawOf dX10_puts_45 rfl q_848 q_850 qs_26 ⟨_, _, rfl⟩ rfl (by decide) (Nat.le_refl _) (Nat.le_refl _) hh (rr_kI fun n9 h8 hh => ?_)
        refine rr_iload_n dX10_puts_48 rfl rfl ?_
        refine rr_icmp_le (tgt := 99) dX10_puts_49 rfl (by decide) (fun hc49 => ?_) (fun hc49 => ?_)
        · have hh := hh.1 hc49
          exact hh
        · have hh := hh.2 hc49
          refine rr_iconst dX10_puts_52 rfl ⟨by decide, by decide⟩ ?_
          refine rr_istore (ls' := [some (vR (some x0)), some (vI x1), some (vI x2), some (vI x3), some (vI x4), some (vI x5), some (vI x6), some (vI x7), some (vI 0)]) dX10_puts_53 rfl (by decide) (fun _ z => by cases z) rfl ?_
          exact hh
set_option maxRecDepth 100000 in
theorem B_X10_puts_55 {d : Nat} {h : AbH} {K : Option AbV → AbH → Prop} {x0 : Nat} {x1 : Int} {x2 : Int} {x3 : Int} {x4 : Int} {x5 : Int} {x6 : Int} {x7 : Int} {x8 : Int} {bc bs : Nat} (hh : ((6 ≤ x8 → in32 (x7 + (-1)) ∧ Vx (d + 1) m_X10_puts bc bs 8 [some (vR (some x0)), some (vI x1), some (vI x2), some (vI x3), some (vI x4), some (vI x5), some (vI x6), some (vI (x7 + (-1))), none] [] h K) ∧ (¬ (6 ≤ x8) → wpGR h (some x0) 9 0 (fun r2 => in32 (6 * x7) ∧ in32 (2 + (6 * x7)) ∧ in32 ((2 + (6 * x7)) + x8) ∧ in32 (x7 - 1) ∧ wpCV h (some x0) 9 (fun b11 => Vm d m_X10_lawOf [vR (some b11), vI (x7 - 1), vI x8] h (kI (fun n8 h7 => wpSI h7 r2 ((2 + (6 * x7)) + x8) n8 (fun h9 => in32 (x8 + 1) ∧ Vx (d + 1) m_X10_puts bc bs 55 [some (vR (some x0)), some (vI x1), some (vI x2), some (vI x3), some (vI x4), some (vI x5), some (vI x6), some (vI x7), some (vI (x8 + 1))] [] h9 K)))))))) : Vx (d + 1) m_X10_puts bc bs 55 [some (vR (some x0)), some (vI x1), some (vI x2), some (vI x3), some (vI x4), some (vI x5), some (vI x6), some (vI x7), some (vI x8)] [] h K := by
  refine rr_iload dX10_puts_55 rfl rfl ?_
  refine rr_bipush dX10_puts_57 rfl ⟨by decide, by decide⟩ rfl ?_
  refine rr_icmp_ge (tgt := 93) dX10_puts_59 rfl (by decide) (fun hc59 => ?_) (fun hc59 => ?_)
  · have hh := hh.1 hc59
    obtain ⟨hz1, hh⟩ := hh
    refine rr_iinc (ls' := [some (vR (some x0)), some (vI x1), some (vI x2), some (vI x3), some (vI x4), some (vI x5), some (vI x6), some (vI (x7 + (-1))), some (vI x8)]) dX10_puts_93 rfl rfl (by decide) (fun _ z => by cases z) hz1 rfl ?_
    refine rr_goto (pc' := 8) dX10_puts_96 (by decide) ?_
    exact Vx.forget (ls' := [some (vR (some x0)), some (vI x1), some (vI x2), some (vI x3), some (vI x4), some (vI x5), some (vI x6), some (vI (x7 + (-1))), none]) (And.intro rfl (And.intro rfl (And.intro rfl (And.intro rfl (And.intro rfl (And.intro rfl (And.intro rfl (And.intro rfl trivial)))))))) hh
  · have hh := hh.2 hc59
    refine rr_aload_n dX10_puts_62 rfl rfl ?_
    refine rr_getR cf_X10 (j := 0) (by decide) dX10_puts_63 rfl q_754 hh (fun r2 hh => ?_)
    refine rr_iconst dX10_puts_66 rfl ⟨by decide, by decide⟩ ?_
    refine rr_bipush dX10_puts_67 rfl ⟨by decide, by decide⟩ rfl ?_
    refine rr_iload dX10_puts_69 rfl rfl ?_
    obtain ⟨hz3, hh⟩ := hh
    refine rr_imul dX10_puts_71 rfl hz3 ?_
    obtain ⟨hz4, hh⟩ := hh
    refine rr_iadd dX10_puts_72 rfl hz4 ?_
    refine rr_iload dX10_puts_73 rfl rfl ?_
    obtain ⟨hz5, hh⟩ := hh
    refine rr_iadd dX10_puts_75 rfl hz5 ?_
    refine rr_aload_n dX10_puts_76 rfl rfl ?_
    refine rr_iload dX10_puts_77 rfl rfl ?_
    refine rr_iconst dX10_puts_79 rfl ⟨by decide, by decide⟩ ?_
    obtain ⟨hz6, hh⟩ := hh
    refine rr_isub dX10_puts_80 rfl hz6 ?_
    refine rr_iload dX10_puts_81 rfl rfl ?_
    refine rr_callW (bc' := bc) (bs' := bs) (q := (some x0)) (av := [vI (x7 - 1), vI x8]) (st := [vI ((2 + (6 * x7)) + x8), vR r2]) mf_X10_lawOf dX10_puts_83 rfl q_848 q_850 qs_26 ⟨_, _, rfl⟩ rfl (cs_le _ (Nat.le_of_ble_eq_true rfl)) (Nat.le_refl _) (Nat.le_refl _) hh (rr_kI fun n8 h7 hh => ?_)
    refine rr_iast dX10_puts_86 rfl hh (fun h9 hh => ?_)
    obtain ⟨hz10, hh⟩ := hh
    refine rr_iinc (ls' := [some (vR (some x0)), some (vI x1), some (vI x2), some (vI x3), some (vI x4), some (vI x5), some (vI x6), some (vI x7), some (vI (x8 + 1))]) dX10_puts_87 rfl rfl (by decide) (fun _ z => by cases z) hz10 rfl ?_
    refine rr_goto (pc' := 55) dX10_puts_90 (by decide) ?_
    exact hh
set_option maxRecDepth 100000 in
theorem B_X10_puts_99 {d : Nat} {h : AbH} {K : Option AbV → AbH → Prop} {x0 : Nat} {x1 : Int} {x2 : Int} {x3 : Int} {x4 : Int} {x5 : Int} {x6 : Int} {x7 : Int} {bc bs : Nat} (hh : wpGR h (some x0) 9 0 (fun r1 => in32 (6 * x7) ∧ in32 (2 + (6 * x7)) ∧ wpSI h r1 (2 + (6 * x7)) x1 (fun h4 => wpGR h4 (some x0) 9 0 (fun r5 => in32 (6 * x7) ∧ in32 (2 + (6 * x7)) ∧ in32 ((2 + (6 * x7)) + 1) ∧ wpSI h4 r5 ((2 + (6 * x7)) + 1) x2 (fun h9 => wpGR h9 (some x0) 9 0 (fun r10 => in32 (6 * x7) ∧ in32 (2 + (6 * x7)) ∧ in32 ((2 + (6 * x7)) + 2) ∧ wpSI h9 r10 ((2 + (6 * x7)) + 2) x3 (fun h14 => wpGR h14 (some x0) 9 0 (fun r15 => in32 (6 * x7) ∧ in32 (2 + (6 * x7)) ∧ in32 ((2 + (6 * x7)) + 3) ∧ wpSI h14 r15 ((2 + (6 * x7)) + 3) x4 (fun h19 => wpGR h19 (some x0) 9 0 (fun r20 => in32 (6 * x7) ∧ in32 (2 + (6 * x7)) ∧ in32 ((2 + (6 * x7)) + 4) ∧ wpSI h19 r20 ((2 + (6 * x7)) + 4) x5 (fun h24 => wpGR h24 (some x0) 9 0 (fun r25 => in32 (6 * x7) ∧ in32 (2 + (6 * x7)) ∧ in32 ((2 + (6 * x7)) + 5) ∧ ((x5 ≠ 0 → wpSI h24 r25 ((2 + (6 * x7)) + 5) x6 (fun h29 => wpGR h29 (some x0) 9 0 (fun r30 => wpLI h29 r30 0 (fun n31 => in32 (n31 + 1) ∧ wpSI h29 r30 0 (n31 + 1) (fun h33 => K (some (vI x7)) h33))))) ∧ (¬ (x5 ≠ 0) → wpSI h24 r25 ((2 + (6 * x7)) + 5) (-1) (fun h34 => wpGR h34 (some x0) 9 0 (fun r35 => wpLI h34 r35 0 (fun n36 => in32 (n36 + 1) ∧ wpSI h34 r35 0 (n36 + 1) (fun h38 => K (some (vI x7)) h38)))))))))))))))))) : Vx (d + 1) m_X10_puts bc bs 99 [some (vR (some x0)), some (vI x1), some (vI x2), some (vI x3), some (vI x4), some (vI x5), some (vI x6), some (vI x7), none] [] h K := by
  refine rr_aload_n dX10_puts_99 rfl rfl ?_
  refine rr_getR cf_X10 (j := 0) (by decide) dX10_puts_100 rfl q_754 hh (fun r1 hh => ?_)
  refine rr_iconst dX10_puts_103 rfl ⟨by decide, by decide⟩ ?_
  refine rr_bipush dX10_puts_104 rfl ⟨by decide, by decide⟩ rfl ?_
  refine rr_iload dX10_puts_106 rfl rfl ?_
  obtain ⟨hz2, hh⟩ := hh
  refine rr_imul dX10_puts_108 rfl hz2 ?_
  obtain ⟨hz3, hh⟩ := hh
  refine rr_iadd dX10_puts_109 rfl hz3 ?_
  refine rr_iload_n dX10_puts_110 rfl rfl ?_
  refine rr_iast dX10_puts_111 rfl hh (fun h4 hh => ?_)
  refine rr_aload_n dX10_puts_112 rfl rfl ?_
  refine rr_getR cf_X10 (j := 0) (by decide) dX10_puts_113 rfl q_754 hh (fun r5 hh => ?_)
  refine rr_iconst dX10_puts_116 rfl ⟨by decide, by decide⟩ ?_
  refine rr_bipush dX10_puts_117 rfl ⟨by decide, by decide⟩ rfl ?_
  refine rr_iload dX10_puts_119 rfl rfl ?_
  obtain ⟨hz6, hh⟩ := hh
  refine rr_imul dX10_puts_121 rfl hz6 ?_
  obtain ⟨hz7, hh⟩ := hh
  refine rr_iadd dX10_puts_122 rfl hz7 ?_
  refine rr_iconst dX10_puts_123 rfl ⟨by decide, by decide⟩ ?_
  obtain ⟨hz8, hh⟩ := hh
  refine rr_iadd dX10_puts_124 rfl hz8 ?_
  refine rr_iload_n dX10_puts_125 rfl rfl ?_
  refine rr_iast dX10_puts_126 rfl hh (fun h9 hh => ?_)
  refine rr_aload_n dX10_puts_127 rfl rfl ?_
  refine rr_getR cf_X10 (j := 0) (by decide) dX10_puts_128 rfl q_754 hh (fun r10 hh => ?_)
  refine rr_iconst dX10_puts_131 rfl ⟨by decide, by decide⟩ ?_
  refine rr_bipush dX10_puts_132 rfl ⟨by decide, by decide⟩ rfl ?_
  refine rr_iload dX10_puts_134 rfl rfl ?_
  obtain ⟨hz11, hh⟩ := hh
  refine rr_imul dX10_puts_136 rfl hz11 ?_
  obtain ⟨hz12, hh⟩ := hh
  refine rr_iadd dX10_puts_137 rfl hz12 ?_
  refine rr_iconst dX10_puts_138 rfl ⟨by decide, by decide⟩ ?_
  obtain ⟨hz13, hh⟩ := hh
  refine rr_iadd dX10_puts_139 rfl hz13 ?_
  refine rr_iload_n dX10_puts_140 rfl rfl ?_
  refine rr_iast dX10_puts_141 rfl hh (fun h14 hh => ?_)
  refine rr_aload_n dX10_puts_142 rfl rfl ?_
  refine rr_getR cf_X10 (j := 0) (by decide) dX10_puts_143 rfl q_754 hh (fun r15 hh => ?_)
  refine rr_iconst dX10_puts_146 rfl ⟨by decide, by decide⟩ ?_
  refine rr_bipush dX10_puts_147 rfl ⟨by decide, by decide⟩ rfl ?_
  refine rr_iload dX10_puts_149 rfl rfl ?_
  obtain ⟨hz16, hh⟩ := hh
  refine rr_imul dX10_puts_151 rfl hz16 ?_
  obtain ⟨hz17, hh⟩ := hh
  refine rr_iadd dX10_puts_152 rfl hz17 ?_
  refine rr_iconst dX10_puts_153 rfl ⟨by decide, by decide⟩ ?_
  obtain ⟨hz18, hh⟩ := hh
  refine rr_iadd dX10_puts_154 rfl hz18 ?_
  refine rr_iload dX10_puts_155 rfl rfl ?_
  refine rr_iast dX10_puts_157 rfl hh (fun h19 hh => ?_)
  refine rr_aload_n dX10_puts_158 rfl rfl ?_
  refine rr_getR cf_X10 (j := 0) (by decide) dX10_puts_159 rfl q_754 hh (fun r20 hh => ?_)
  refine rr_iconst dX10_puts_162 rfl ⟨by decide, by decide⟩ ?_
  refine rr_bipush dX10_puts_163 rfl ⟨by decide, by decide⟩ rfl ?_
  refine rr_iload dX10_puts_165 rfl rfl ?_
  obtain ⟨hz21, hh⟩ := hh
  refine rr_imul dX10_puts_167 rfl hz21 ?_
  obtain ⟨hz22, hh⟩ := hh
  refine rr_iadd dX10_puts_168 rfl hz22 ?_
  refine rr_iconst dX10_puts_169 rfl ⟨by decide, by decide⟩ ?_
  obtain ⟨hz23, hh⟩ := hh
  refine rr_iadd dX10_puts_170 rfl hz23 ?_
  refine rr_iload dX10_puts_171 rfl rfl ?_
  refine rr_iast dX10_puts_173 rfl hh (fun h24 hh => ?_)
  refine rr_aload_n dX10_puts_174 rfl rfl ?_
  refine rr_getR cf_X10 (j := 0) (by decide) dX10_puts_175 rfl q_754 hh (fun r25 hh => ?_)
  refine rr_iconst dX10_puts_178 rfl ⟨by decide, by decide⟩ ?_
  refine rr_bipush dX10_puts_179 rfl ⟨by decide, by decide⟩ rfl ?_
  refine rr_iload dX10_puts_181 rfl rfl ?_
  obtain ⟨hz26, hh⟩ := hh
  refine rr_imul dX10_puts_183 rfl hz26 ?_
  obtain ⟨hz27, hh⟩ := hh
  refine rr_iadd dX10_puts_184 rfl hz27 ?_
  refine rr_iconst dX10_puts_185 rfl ⟨by decide, by decide⟩ ?_
  obtain ⟨hz28, hh⟩ := hh
  refine rr_iadd dX10_puts_186 rfl hz28 ?_
  refine rr_iload dX10_puts_187 rfl rfl ?_
  refine rr_if_ne (tgt := 196) dX10_puts_189 rfl (by decide) (fun hc189 => ?_) (fun hc189 => ?_)
  · have hh := hh.1 hc189
    refine rr_iload dX10_puts_196 rfl rfl ?_
    refine rr_iast dX10_puts_198 rfl hh (fun h29 hh => ?_)
    refine rr_aload_n dX10_puts_199 rfl rfl ?_
    refine rr_getR cf_X10 (j := 0) (by decide) dX10_puts_200 rfl q_754 hh (fun r30 hh => ?_)
    refine rr_iconst dX10_puts_203 rfl ⟨by decide, by decide⟩ ?_
    refine rr_dup2 dX10_puts_204 rfl rfl (ab_catR _) ?_
    refine rr_iald dX10_puts_205 rfl hh (fun n31 hh => ?_)
    refine rr_iconst dX10_puts_206 rfl ⟨by decide, by decide⟩ ?_
    obtain ⟨hz32, hh⟩ := hh
    refine rr_iadd dX10_puts_207 rfl hz32 ?_
    refine rr_iast dX10_puts_208 rfl hh (fun h33 hh => ?_)
    refine rr_iload dX10_puts_209 rfl rfl ?_
    exact rr_iret dX10_puts_211 rfl hh
  · have hh := hh.2 hc189
    refine rr_iconst dX10_puts_192 rfl ⟨by decide, by decide⟩ ?_
    refine rr_goto (pc' := 198) dX10_puts_193 (by decide) ?_
    refine rr_iast dX10_puts_198 rfl hh (fun h34 hh => ?_)
    refine rr_aload_n dX10_puts_199 rfl rfl ?_
    refine rr_getR cf_X10 (j := 0) (by decide) dX10_puts_200 rfl q_754 hh (fun r35 hh => ?_)
    refine rr_iconst dX10_puts_203 rfl ⟨by decide, by decide⟩ ?_
    refine rr_dup2 dX10_puts_204 rfl rfl (ab_catR _) ?_
    refine rr_iald dX10_puts_205 rfl hh (fun n36 hh => ?_)
    refine rr_iconst dX10_puts_206 rfl ⟨by decide, by decide⟩ ?_
    obtain ⟨hz37, hh⟩ := hh
    refine rr_iadd dX10_puts_207 rfl hz37 ?_
    refine rr_iast dX10_puts_208 rfl hh (fun h38 hh => ?_)
    refine rr_iload dX10_puts_209 rfl rfl ?_
    exact rr_iret dX10_puts_211 rfl hh
theorem dX10_hasLaw_0 : decode cX10_hasLaw 0 = .ok (.iconst 0, 1) := by decide +kernel
theorem dX10_hasLaw_1 : decode cX10_hasLaw 1 = .ok (.istore_n 3, 1) := by decide +kernel
theorem dX10_hasLaw_2 : decode cX10_hasLaw 2 = .ok (.iconst 0, 1) := by decide +kernel
theorem dX10_hasLaw_3 : decode cX10_hasLaw 3 = .ok (.istore 4, 2) := by decide +kernel
theorem dX10_hasLaw_5 : decode cX10_hasLaw 5 = .ok (.iload 4, 2) := by decide +kernel
theorem dX10_hasLaw_7 : decode cX10_hasLaw 7 = .ok (.aload_n 0, 1) := by decide +kernel
theorem dX10_hasLaw_8 : decode cX10_hasLaw 8 = .ok (.getfield 7, 3) := by decide +kernel
theorem dX10_hasLaw_11 : decode cX10_hasLaw 11 = .ok (.iconst 0, 1) := by decide +kernel
theorem dX10_hasLaw_12 : decode cX10_hasLaw 12 = .ok (.iaload, 1) := by decide +kernel
theorem dX10_hasLaw_13 : decode cX10_hasLaw 13 = .ok (.if_icmp .ge 41, 3) := by decide +kernel
theorem dX10_hasLaw_16 : decode cX10_hasLaw 16 = .ok (.iload_n 3, 1) := by decide +kernel
theorem dX10_hasLaw_17 : decode cX10_hasLaw 17 = .ok (.ifCond .ne 25, 3) := by decide +kernel
theorem dX10_hasLaw_20 : decode cX10_hasLaw 20 = .ok (.aload_n 0, 1) := by decide +kernel
theorem dX10_hasLaw_21 : decode cX10_hasLaw 21 = .ok (.iload 4, 2) := by decide +kernel
theorem dX10_hasLaw_23 : decode cX10_hasLaw 23 = .ok (.iconst 0, 1) := by decide +kernel
theorem dX10_hasLaw_24 : decode cX10_hasLaw 24 = .ok (.invokevirtual 156, 3) := by decide +kernel
theorem dX10_hasLaw_27 : decode cX10_hasLaw 27 = .ok (.iload_n 1, 1) := by decide +kernel
theorem dX10_hasLaw_28 : decode cX10_hasLaw 28 = .ok (.if_icmp .ne 18, 3) := by decide +kernel
theorem dX10_hasLaw_31 : decode cX10_hasLaw 31 = .ok (.aload_n 0, 1) := by decide +kernel
theorem dX10_hasLaw_32 : decode cX10_hasLaw 32 = .ok (.iload 4, 2) := by decide +kernel
theorem dX10_hasLaw_34 : decode cX10_hasLaw 34 = .ok (.iconst 1, 1) := by decide +kernel
theorem dX10_hasLaw_35 : decode cX10_hasLaw 35 = .ok (.invokevirtual 156, 3) := by decide +kernel
theorem dX10_hasLaw_38 : decode cX10_hasLaw 38 = .ok (.iload_n 2, 1) := by decide +kernel
theorem dX10_hasLaw_39 : decode cX10_hasLaw 39 = .ok (.if_icmp .ne 7, 3) := by decide +kernel
theorem dX10_hasLaw_42 : decode cX10_hasLaw 42 = .ok (.iconst 1, 1) := by decide +kernel
theorem dX10_hasLaw_43 : decode cX10_hasLaw 43 = .ok (.goto 4, 3) := by decide +kernel
theorem dX10_hasLaw_46 : decode cX10_hasLaw 46 = .ok (.iconst 0, 1) := by decide +kernel
theorem dX10_hasLaw_47 : decode cX10_hasLaw 47 = .ok (.istore_n 3, 1) := by decide +kernel
theorem dX10_hasLaw_48 : decode cX10_hasLaw 48 = .ok (.iinc 4 1, 3) := by decide +kernel
theorem dX10_hasLaw_51 : decode cX10_hasLaw 51 = .ok (.goto (-46), 3) := by decide +kernel
theorem dX10_hasLaw_54 : decode cX10_hasLaw 54 = .ok (.iload_n 3, 1) := by decide +kernel
theorem dX10_hasLaw_55 : decode cX10_hasLaw 55 = .ok (.ireturn, 1) := by decide +kernel
set_option maxRecDepth 100000 in
theorem B_X10_hasLaw_0 {d : Nat} {h : AbH} {K : Option AbV → AbH → Prop} {x0 : Nat} {x1 : Int} {x2 : Int} (hh : Vx (d + 1) m_X10_hasLaw 0 0 5 [some (vR (some x0)), some (vI x1), some (vI x2), some (vI 0), some (vI 0)] [] h K) : Vx (d + 1) m_X10_hasLaw 0 0 0 [some (vR (some x0)), some (vI x1), some (vI x2)] [] h K := by
  refine Vx.pad 2 [some (vR (some x0)), some (vI x1), some (vI x2), none, none] rfl ?_
  refine rr_iconst dX10_hasLaw_0 rfl ⟨by decide, by decide⟩ ?_
  refine rr_istore_n (ls' := [some (vR (some x0)), some (vI x1), some (vI x2), some (vI 0), none]) dX10_hasLaw_1 rfl (by decide) (fun _ z => by cases z) rfl ?_
  refine rr_iconst dX10_hasLaw_2 rfl ⟨by decide, by decide⟩ ?_
  refine rr_istore (ls' := [some (vR (some x0)), some (vI x1), some (vI x2), some (vI 0), some (vI 0)]) dX10_hasLaw_3 rfl (by decide) (fun _ z => by cases z) rfl ?_
  exact hh
set_option maxRecDepth 100000 in
theorem B_X10_hasLaw_5 {d : Nat} {h : AbH} {K : Option AbV → AbH → Prop} {x0 : Nat} {x1 : Int} {x2 : Int} {x3 : Int} {x4 : Int} {bc bs : Nat} (hh : wpGR h (some x0) 9 0 (fun r1 => wpLI h r1 0 (fun n2 => ((n2 ≤ x4 → ab_z01 x3 ∧ K (some (vI x3)) h) ∧ (¬ (n2 ≤ x4) → ((x3 ≠ 0 → in32 (x4 + 1) ∧ Vx (d + 1) m_X10_hasLaw bc bs 5 [some (vR (some x0)), some (vI x1), some (vI x2), some (vI 1), some (vI (x4 + 1))] [] h K) ∧ (¬ (x3 ≠ 0) → wpCV h (some x0) 9 (fun b13 => Vm d m_X10_lawOf [vR (some b13), vI x4, vI 0] h (kI (fun n6 h5 => ((n6 ≠ x1 → in32 (x4 + 1) ∧ Vx (d + 1) m_X10_hasLaw bc bs 5 [some (vR (some x0)), some (vI x1), some (vI x2), some (vI 0), some (vI (x4 + 1))] [] h5 K) ∧ (¬ (n6 ≠ x1) → wpCV h5 (some x0) 9 (fun b12 => Vm d m_X10_lawOf [vR (some b12), vI x4, vI 1] h5 (kI (fun n9 h8 => ((n9 ≠ x2 → in32 (x4 + 1) ∧ Vx (d + 1) m_X10_hasLaw bc bs 5 [some (vR (some x0)), some (vI x1), some (vI x2), some (vI 0), some (vI (x4 + 1))] [] h8 K) ∧ (¬ (n9 ≠ x2) → in32 (x4 + 1) ∧ Vx (d + 1) m_X10_hasLaw bc bs 5 [some (vR (some x0)), some (vI x1), some (vI x2), some (vI 1), some (vI (x4 + 1))] [] h8 K))))))))))))))))) : Vx (d + 1) m_X10_hasLaw bc bs 5 [some (vR (some x0)), some (vI x1), some (vI x2), some (vI x3), some (vI x4)] [] h K := by
  refine rr_iload dX10_hasLaw_5 rfl rfl ?_
  refine rr_aload_n dX10_hasLaw_7 rfl rfl ?_
  refine rr_getR cf_X10 (j := 0) (by decide) dX10_hasLaw_8 rfl q_754 hh (fun r1 hh => ?_)
  refine rr_iconst dX10_hasLaw_11 rfl ⟨by decide, by decide⟩ ?_
  refine rr_iald dX10_hasLaw_12 rfl hh (fun n2 hh => ?_)
  refine rr_icmp_ge (tgt := 54) dX10_hasLaw_13 rfl (by decide) (fun hc13 => ?_) (fun hc13 => ?_)
  · have hh := hh.1 hc13
    refine rr_iload_n dX10_hasLaw_54 rfl rfl ?_
    obtain ⟨hz3, hh⟩ := hh
    exact rr_zret dX10_hasLaw_55 rfl (zn_b hz3) hh
  · have hh := hh.2 hc13
    refine rr_iload_n dX10_hasLaw_16 rfl rfl ?_
    refine rr_if_ne (tgt := 42) dX10_hasLaw_17 rfl (by decide) (fun hc17 => ?_) (fun hc17 => ?_)
    · have hh := hh.1 hc17
      refine rr_iconst dX10_hasLaw_42 rfl ⟨by decide, by decide⟩ ?_
      refine rr_goto (pc' := 47) dX10_hasLaw_43 (by decide) ?_
      refine rr_istore_n (ls' := [some (vR (some x0)), some (vI x1), some (vI x2), some (vI 1), some (vI x4)]) dX10_hasLaw_47 rfl (by decide) (fun _ z => by cases z) rfl ?_
      obtain ⟨hz4, hh⟩ := hh
      refine rr_iinc (ls' := [some (vR (some x0)), some (vI x1), some (vI x2), some (vI 1), some (vI (x4 + 1))]) dX10_hasLaw_48 rfl rfl (by decide) (fun _ z => by cases z) hz4 rfl ?_
      refine rr_goto (pc' := 5) dX10_hasLaw_51 (by decide) ?_
      exact hh
    · have hh := hh.2 hc17
      refine rr_aload_n dX10_hasLaw_20 rfl rfl ?_
      refine rr_iload dX10_hasLaw_21 rfl rfl ?_
      refine rr_iconst dX10_hasLaw_23 rfl ⟨by decide, by decide⟩ ?_
      refine rr_callW (bc' := bc) (bs' := bs) (q := (some x0)) (av := [vI x4, vI 0]) (st := []) mf_X10_lawOf dX10_hasLaw_24 rfl q_848 q_850 qs_26 ⟨_, _, rfl⟩ rfl (by decide) (Nat.le_refl _) (Nat.le_refl _) hh (rr_kI fun n6 h5 hh => ?_)
      refine rr_iload_n dX10_hasLaw_27 rfl rfl ?_
      refine rr_icmp_ne (tgt := 46) dX10_hasLaw_28 rfl (by decide) (fun hc28 => ?_) (fun hc28 => ?_)
      · have hh := hh.1 hc28
        refine rr_iconst dX10_hasLaw_46 rfl ⟨by decide, by decide⟩ ?_
        refine rr_istore_n (ls' := [some (vR (some x0)), some (vI x1), some (vI x2), some (vI 0), some (vI x4)]) dX10_hasLaw_47 rfl (by decide) (fun _ z => by cases z) rfl ?_
        obtain ⟨hz7, hh⟩ := hh
        refine rr_iinc (ls' := [some (vR (some x0)), some (vI x1), some (vI x2), some (vI 0), some (vI (x4 + 1))]) dX10_hasLaw_48 rfl rfl (by decide) (fun _ z => by cases z) hz7 rfl ?_
        refine rr_goto (pc' := 5) dX10_hasLaw_51 (by decide) ?_
        exact hh
      · have hh := hh.2 hc28
        refine rr_aload_n dX10_hasLaw_31 rfl rfl ?_
        refine rr_iload dX10_hasLaw_32 rfl rfl ?_
        refine rr_iconst dX10_hasLaw_34 rfl ⟨by decide, by decide⟩ ?_
        refine rr_callW (bc' := bc) (bs' := bs) (q := (some x0)) (av := [vI x4, vI 1]) (st := []) mf_X10_lawOf dX10_hasLaw_35 rfl q_848 q_850 qs_26 ⟨_, _, rfl⟩ rfl (by decide) (Nat.le_refl _) (Nat.le_refl _) hh (rr_kI fun n9 h8 hh => ?_)
        refine rr_iload_n dX10_hasLaw_38 rfl rfl ?_
        refine rr_icmp_ne (tgt := 46) dX10_hasLaw_39 rfl (by decide) (fun hc39 => ?_) (fun hc39 => ?_)
        · have hh := hh.1 hc39
          refine rr_iconst dX10_hasLaw_46 rfl ⟨by decide, by decide⟩ ?_
          refine rr_istore_n (ls' := [some (vR (some x0)), some (vI x1), some (vI x2), some (vI 0), some (vI x4)]) dX10_hasLaw_47 rfl (by decide) (fun _ z => by cases z) rfl ?_
          obtain ⟨hz10, hh⟩ := hh
          refine rr_iinc (ls' := [some (vR (some x0)), some (vI x1), some (vI x2), some (vI 0), some (vI (x4 + 1))]) dX10_hasLaw_48 rfl rfl (by decide) (fun _ z => by cases z) hz10 rfl ?_
          refine rr_goto (pc' := 5) dX10_hasLaw_51 (by decide) ?_
          exact hh
        · have hh := hh.2 hc39
          refine rr_iconst dX10_hasLaw_42 rfl ⟨by decide, by decide⟩ ?_
          refine rr_goto (pc' := 47) dX10_hasLaw_43 (by decide) ?_
          refine rr_istore_n (ls' := [some (vR (some x0)), some (vI x1), some (vI x2), some (vI 1), some (vI x4)]) dX10_hasLaw_47 rfl (by decide) (fun _ z => by cases z) rfl ?_
          obtain ⟨hz11, hh⟩ := hh
          refine rr_iinc (ls' := [some (vR (some x0)), some (vI x1), some (vI x2), some (vI 1), some (vI (x4 + 1))]) dX10_hasLaw_48 rfl rfl (by decide) (fun _ z => by cases z) hz11 rfl ?_
          refine rr_goto (pc' := 5) dX10_hasLaw_51 (by decide) ?_
          exact hh
theorem dX10_law_0 : decode cX10_law 0 = .ok (.iload_n 1, 1) := by decide +kernel
theorem dX10_law_1 : decode cX10_law 1 = .ok (.invokestatic 56, 3) := by decide +kernel
theorem dX10_law_4 : decode cX10_law 4 = .ok (.ifCond .ne 6, 3) := by decide +kernel
theorem dX10_law_7 : decode cX10_law 7 = .ok (.bipush (-2), 2) := by decide +kernel
theorem dX10_law_9 : decode cX10_law 9 = .ok (.ireturn, 1) := by decide +kernel
theorem dX10_law_10 : decode cX10_law 10 = .ok (.iload_n 2, 1) := by decide +kernel
theorem dX10_law_11 : decode cX10_law 11 = .ok (.i2l, 1) := by decide +kernel
theorem dX10_law_12 : decode cX10_law 12 = .ok (.lconst 1, 1) := by decide +kernel
theorem dX10_law_13 : decode cX10_law 13 = .ok (.ldc2_w 60, 3) := by decide +kernel
theorem dX10_law_16 : decode cX10_law 16 = .ok (.invokestatic 52, 3) := by decide +kernel
theorem dX10_law_19 : decode cX10_law 19 = .ok (.ifCond .eq 61, 3) := by decide +kernel
theorem dX10_law_22 : decode cX10_law 22 = .ok (.iload_n 3, 1) := by decide +kernel
theorem dX10_law_23 : decode cX10_law 23 = .ok (.i2l, 1) := by decide +kernel
theorem dX10_law_24 : decode cX10_law 24 = .ok (.lconst 0, 1) := by decide +kernel
theorem dX10_law_25 : decode cX10_law 25 = .ok (.ldc2_w 217, 3) := by decide +kernel
theorem dX10_law_28 : decode cX10_law 28 = .ok (.invokestatic 52, 3) := by decide +kernel
theorem dX10_law_31 : decode cX10_law 31 = .ok (.ifCond .eq 49, 3) := by decide +kernel
theorem dX10_law_34 : decode cX10_law 34 = .ok (.iload 4, 2) := by decide +kernel
theorem dX10_law_36 : decode cX10_law 36 = .ok (.i2l, 1) := by decide +kernel
theorem dX10_law_37 : decode cX10_law 37 = .ok (.ldc2_w 219, 3) := by decide +kernel
theorem dX10_law_40 : decode cX10_law 40 = .ok (.ldc2_w 217, 3) := by decide +kernel
theorem dX10_law_43 : decode cX10_law 43 = .ok (.invokestatic 52, 3) := by decide +kernel
theorem dX10_law_46 : decode cX10_law 46 = .ok (.ifCond .eq 34, 3) := by decide +kernel
theorem dX10_law_49 : decode cX10_law 49 = .ok (.iload 5, 2) := by decide +kernel
theorem dX10_law_51 : decode cX10_law 51 = .ok (.i2l, 1) := by decide +kernel
theorem dX10_law_52 : decode cX10_law 52 = .ok (.lconst 0, 1) := by decide +kernel
theorem dX10_law_53 : decode cX10_law 53 = .ok (.ldc2_w 221, 3) := by decide +kernel
theorem dX10_law_56 : decode cX10_law 56 = .ok (.invokestatic 52, 3) := by decide +kernel
theorem dX10_law_59 : decode cX10_law 59 = .ok (.ifCond .eq 21, 3) := by decide +kernel
theorem dX10_law_62 : decode cX10_law 62 = .ok (.iload 5, 2) := by decide +kernel
theorem dX10_law_64 : decode cX10_law 64 = .ok (.ifCond .le 19, 3) := by decide +kernel
theorem dX10_law_67 : decode cX10_law 67 = .ok (.iload 6, 2) := by decide +kernel
theorem dX10_law_69 : decode cX10_law 69 = .ok (.i2l, 1) := by decide +kernel
theorem dX10_law_70 : decode cX10_law 70 = .ok (.lconst 0, 1) := by decide +kernel
theorem dX10_law_71 : decode cX10_law 71 = .ok (.ldc2_w 217, 3) := by decide +kernel
theorem dX10_law_74 : decode cX10_law 74 = .ok (.invokestatic 52, 3) := by decide +kernel
theorem dX10_law_77 : decode cX10_law 77 = .ok (.ifCond .ne 6, 3) := by decide +kernel
theorem dX10_law_80 : decode cX10_law 80 = .ok (.bipush (-3), 2) := by decide +kernel
theorem dX10_law_82 : decode cX10_law 82 = .ok (.ireturn, 1) := by decide +kernel
theorem dX10_law_83 : decode cX10_law 83 = .ok (.iload_n 3, 1) := by decide +kernel
theorem dX10_law_84 : decode cX10_law 84 = .ok (.iload 4, 2) := by decide +kernel
theorem dX10_law_86 : decode cX10_law 86 = .ok (.if_icmp .eq 12, 3) := by decide +kernel
theorem dX10_law_89 : decode cX10_law 89 = .ok (.aload_n 0, 1) := by decide +kernel
theorem dX10_law_90 : decode cX10_law 90 = .ok (.iload_n 1, 1) := by decide +kernel
theorem dX10_law_91 : decode cX10_law 91 = .ok (.iload_n 2, 1) := by decide +kernel
theorem dX10_law_92 : decode cX10_law 92 = .ok (.invokevirtual 223, 3) := by decide +kernel
theorem dX10_law_95 : decode cX10_law 95 = .ok (.ifCond .eq 6, 3) := by decide +kernel
theorem dX10_law_98 : decode cX10_law 98 = .ok (.bipush (-4), 2) := by decide +kernel
theorem dX10_law_100 : decode cX10_law 100 = .ok (.ireturn, 1) := by decide +kernel
theorem dX10_law_101 : decode cX10_law 101 = .ok (.aload_n 0, 1) := by decide +kernel
theorem dX10_law_102 : decode cX10_law 102 = .ok (.getfield 7, 3) := by decide +kernel
theorem dX10_law_105 : decode cX10_law 105 = .ok (.iconst 0, 1) := by decide +kernel
theorem dX10_law_106 : decode cX10_law 106 = .ok (.iaload, 1) := by decide +kernel
theorem dX10_law_107 : decode cX10_law 107 = .ok (.bipush 16, 2) := by decide +kernel
theorem dX10_law_109 : decode cX10_law 109 = .ok (.if_icmp .ne 6, 3) := by decide +kernel
theorem dX10_law_112 : decode cX10_law 112 = .ok (.bipush (-5), 2) := by decide +kernel
theorem dX10_law_114 : decode cX10_law 114 = .ok (.ireturn, 1) := by decide +kernel
theorem dX10_law_115 : decode cX10_law 115 = .ok (.aload_n 0, 1) := by decide +kernel
theorem dX10_law_116 : decode cX10_law 116 = .ok (.invokevirtual 226, 3) := by decide +kernel
theorem dX10_law_119 : decode cX10_law 119 = .ok (.aload_n 0, 1) := by decide +kernel
theorem dX10_law_120 : decode cX10_law 120 = .ok (.iload_n 1, 1) := by decide +kernel
theorem dX10_law_121 : decode cX10_law 121 = .ok (.iload_n 2, 1) := by decide +kernel
theorem dX10_law_122 : decode cX10_law 122 = .ok (.iload_n 3, 1) := by decide +kernel
theorem dX10_law_123 : decode cX10_law 123 = .ok (.iload 4, 2) := by decide +kernel
theorem dX10_law_125 : decode cX10_law 125 = .ok (.iload 5, 2) := by decide +kernel
theorem dX10_law_127 : decode cX10_law 127 = .ok (.iload 6, 2) := by decide +kernel
theorem dX10_law_129 : decode cX10_law 129 = .ok (.invokevirtual 124, 3) := by decide +kernel
theorem dX10_law_132 : decode cX10_law 132 = .ok (.ireturn, 1) := by decide +kernel
set_option maxRecDepth 100000 in
theorem B_X10_law_0 {d : Nat} {h : AbH} {K : Option AbV → AbH → Prop} {x0 : Nat} {x1 : Int} {x2 : Int} {x3 : Int} {x4 : Int} {x5 : Int} {x6 : Int} (hh : Vm d m_X10_isTongue [vI x1] h (kI (fun n2 h1 => ((n2 ≠ 0 → Vm d m_X10_in [vL x2, vL 1, vL 99] h1 (kI (fun n4 h3 => ((n4 = 0 → K (some (vI (-3))) h3) ∧ (¬ (n4 = 0) → Vm d m_X10_in [vL x3, vL 0, vL 25] h3 (kI (fun n6 h5 => ((n6 = 0 → K (some (vI (-3))) h5) ∧ (¬ (n6 = 0) → Vm d m_X10_in [vL x4, vL (-1), vL 25] h5 (kI (fun n8 h7 => ((n8 = 0 → K (some (vI (-3))) h7) ∧ (¬ (n8 = 0) → Vm d m_X10_in [vL x5, vL 0, vL 2] h7 (kI (fun n10 h9 => ((n10 = 0 → K (some (vI (-3))) h9) ∧ (¬ (n10 = 0) → ((x5 ≤ 0 → Vx (d + 1) m_X10_law 0 0 83 [some (vR (some x0)), some (vI x1), some (vI x2), some (vI x3), some (vI x4), some (vI x5), some (vI x6)] [] h9 K) ∧ (¬ (x5 ≤ 0) → Vm d m_X10_in [vL x6, vL 0, vL 25] h9 (kI (fun n12 h11 => ((n12 ≠ 0 → Vx (d + 1) m_X10_law 0 0 83 [some (vR (some x0)), some (vI x1), some (vI x2), some (vI x3), some (vI x4), some (vI x5), some (vI x6)] [] h11 K) ∧ (¬ (n12 ≠ 0) → K (some (vI (-3))) h11))))))))))))))))))))))) ∧ (¬ (n2 ≠ 0) → K (some (vI (-2))) h1))))) : Vx (d + 1) m_X10_law 0 0 0 [some (vR (some x0)), some (vI x1), some (vI x2), some (vI x3), some (vI x4), some (vI x5), some (vI x6)] [] h K := by
  refine rr_iload_n dX10_law_0 rfl rfl ?_
  refine rr_callS (bc' := 0) (bs' := 0) (av := [vI x1]) (st := []) mf_X10_isTongue dX10_law_1 rfl q_933 q_934 rfl (by decide) (Nat.le_refl _) (Nat.le_refl _) hh (rr_kI fun n2 h1 hh => ?_)
  refine rr_if_ne (tgt := 10) dX10_law_4 rfl (by decide) (fun hc4 => ?_) (fun hc4 => ?_)
  · have hh := hh.1 hc4
    refine rr_iload_n dX10_law_10 rfl rfl ?_
    refine rr_i2l dX10_law_11 rfl ?_
    refine rr_lconst (n := 1) dX10_law_12 rfl ⟨by decide, by decide⟩ rfl ?_
    refine rr_ldc2 (n := 99) dX10_law_13 rfl q_886 (by decide) ⟨by decide, by decide⟩ ?_
    refine rr_callS (bc' := 0) (bs' := 0) (av := [vL x2, vL 1, vL 99]) (st := []) mf_X10_in dX10_law_16 rfl q_829 q_830 rfl (by decide) (Nat.le_refl _) (Nat.le_refl _) hh (rr_kI fun n4 h3 hh => ?_)
    refine rr_if_eq (tgt := 80) dX10_law_19 rfl (by decide) (fun hc19 => ?_) (fun hc19 => ?_)
    · have hh := hh.1 hc19
      refine rr_bipush dX10_law_80 rfl ⟨by decide, by decide⟩ rfl ?_
      exact rr_iret dX10_law_82 rfl hh
    · have hh := hh.2 hc19
      refine rr_iload_n dX10_law_22 rfl rfl ?_
      refine rr_i2l dX10_law_23 rfl ?_
      refine rr_lconst (n := 0) dX10_law_24 rfl ⟨by decide, by decide⟩ rfl ?_
      refine rr_ldc2 (n := 25) dX10_law_25 rfl q_937 (by decide) ⟨by decide, by decide⟩ ?_
      refine rr_callS (bc' := 0) (bs' := 0) (av := [vL x3, vL 0, vL 25]) (st := []) mf_X10_in dX10_law_28 rfl q_829 q_830 rfl (by decide) (Nat.le_refl _) (Nat.le_refl _) hh (rr_kI fun n6 h5 hh => ?_)
      refine rr_if_eq (tgt := 80) dX10_law_31 rfl (by decide) (fun hc31 => ?_) (fun hc31 => ?_)
      · have hh := hh.1 hc31
        refine rr_bipush dX10_law_80 rfl ⟨by decide, by decide⟩ rfl ?_
        exact rr_iret dX10_law_82 rfl hh
      · have hh := hh.2 hc31
        refine rr_iload dX10_law_34 rfl rfl ?_
        refine rr_i2l dX10_law_36 rfl ?_
        refine rr_ldc2 (n := -1) dX10_law_37 rfl q_938 (by decide) ⟨by decide, by decide⟩ ?_
        refine rr_ldc2 (n := 25) dX10_law_40 rfl q_937 (by decide) ⟨by decide, by decide⟩ ?_
        refine rr_callS (bc' := 0) (bs' := 0) (av := [vL x4, vL (-1), vL 25]) (st := []) mf_X10_in dX10_law_43 rfl q_829 q_830 rfl (by decide) (Nat.le_refl _) (Nat.le_refl _) hh (rr_kI fun n8 h7 hh => ?_)
        refine rr_if_eq (tgt := 80) dX10_law_46 rfl (by decide) (fun hc46 => ?_) (fun hc46 => ?_)
        · have hh := hh.1 hc46
          refine rr_bipush dX10_law_80 rfl ⟨by decide, by decide⟩ rfl ?_
          exact rr_iret dX10_law_82 rfl hh
        · have hh := hh.2 hc46
          refine rr_iload dX10_law_49 rfl rfl ?_
          refine rr_i2l dX10_law_51 rfl ?_
          refine rr_lconst (n := 0) dX10_law_52 rfl ⟨by decide, by decide⟩ rfl ?_
          refine rr_ldc2 (n := 2) dX10_law_53 rfl q_939 (by decide) ⟨by decide, by decide⟩ ?_
          refine rr_callS (bc' := 0) (bs' := 0) (av := [vL x5, vL 0, vL 2]) (st := []) mf_X10_in dX10_law_56 rfl q_829 q_830 rfl (by decide) (Nat.le_refl _) (Nat.le_refl _) hh (rr_kI fun n10 h9 hh => ?_)
          refine rr_if_eq (tgt := 80) dX10_law_59 rfl (by decide) (fun hc59 => ?_) (fun hc59 => ?_)
          · have hh := hh.1 hc59
            refine rr_bipush dX10_law_80 rfl ⟨by decide, by decide⟩ rfl ?_
            exact rr_iret dX10_law_82 rfl hh
          · have hh := hh.2 hc59
            refine rr_iload dX10_law_62 rfl rfl ?_
            refine rr_if_le (tgt := 83) dX10_law_64 rfl (by decide) (fun hc64 => ?_) (fun hc64 => ?_)
            · have hh := hh.1 hc64
              exact hh
            · have hh := hh.2 hc64
              refine rr_iload dX10_law_67 rfl rfl ?_
              refine rr_i2l dX10_law_69 rfl ?_
              refine rr_lconst (n := 0) dX10_law_70 rfl ⟨by decide, by decide⟩ rfl ?_
              refine rr_ldc2 (n := 25) dX10_law_71 rfl q_937 (by decide) ⟨by decide, by decide⟩ ?_
              refine rr_callS (bc' := 0) (bs' := 0) (av := [vL x6, vL 0, vL 25]) (st := []) mf_X10_in dX10_law_74 rfl q_829 q_830 rfl (by decide) (Nat.le_refl _) (Nat.le_refl _) hh (rr_kI fun n12 h11 hh => ?_)
              refine rr_if_ne (tgt := 83) dX10_law_77 rfl (by decide) (fun hc77 => ?_) (fun hc77 => ?_)
              · have hh := hh.1 hc77
                exact hh
              · have hh := hh.2 hc77
                refine rr_bipush dX10_law_80 rfl ⟨by decide, by decide⟩ rfl ?_
                exact rr_iret dX10_law_82 rfl hh
  · have hh := hh.2 hc4
    refine rr_bipush dX10_law_7 rfl ⟨by decide, by decide⟩ rfl ?_
    exact rr_iret dX10_law_9 rfl hh
set_option maxRecDepth 100000 in
theorem B_X10_law_83 {d : Nat} {h : AbH} {K : Option AbV → AbH → Prop} {x0 : Nat} {x1 : Int} {x2 : Int} {x3 : Int} {x4 : Int} {x5 : Int} {x6 : Int} {bc bs : Nat} (hh : ((x3 = x4 → K (some (vI (-4))) h) ∧ (¬ (x3 = x4) → wpCV h (some x0) 9 (fun b10 => Vm d m_X10_hasLaw [vR (some b10), vI x1, vI x2] h (kI (fun n2 h1 => ((n2 = 0 → wpGR h1 (some x0) 9 0 (fun r3 => wpLI h1 r3 0 (fun n4 => ((n4 ≠ 16 → wpCV h1 (some x0) 9 (fun b9 => Vm d m_X10_keepPast [vR (some b9)] h1 (kV (fun h5 => wpCV h5 (some x0) 9 (fun b8 => Vm d m_X10_puts [vR (some b8), vI x1, vI x2, vI x3, vI x4, vI x5, vI x6] h5 (kI (fun n7 h6 => K (some (vI n7)) h6))))))) ∧ (¬ (n4 ≠ 16) → K (some (vI (-5))) h1))))) ∧ (¬ (n2 = 0) → K (some (vI (-4))) h1)))))))) : Vx (d + 1) m_X10_law bc bs 83 [some (vR (some x0)), some (vI x1), some (vI x2), some (vI x3), some (vI x4), some (vI x5), some (vI x6)] [] h K := by
  refine rr_iload_n dX10_law_83 rfl rfl ?_
  refine rr_iload dX10_law_84 rfl rfl ?_
  refine rr_icmp_eq (tgt := 98) dX10_law_86 rfl (by decide) (fun hc86 => ?_) (fun hc86 => ?_)
  · have hh := hh.1 hc86
    refine rr_bipush dX10_law_98 rfl ⟨by decide, by decide⟩ rfl ?_
    exact rr_iret dX10_law_100 rfl hh
  · have hh := hh.2 hc86
    refine rr_aload_n dX10_law_89 rfl rfl ?_
    refine rr_iload_n dX10_law_90 rfl rfl ?_
    refine rr_iload_n dX10_law_91 rfl rfl ?_
    refine rr_callW (bc' := bc) (bs' := bs) (q := (some x0)) (av := [vI x1, vI x2]) (st := []) mf_X10_hasLaw dX10_law_92 rfl q_940 q_942 qs_41 ⟨_, _, rfl⟩ rfl (by decide) (Nat.le_refl _) (Nat.le_refl _) hh (rr_kI fun n2 h1 hh => ?_)
    refine rr_if_eq (tgt := 101) dX10_law_95 rfl (by decide) (fun hc95 => ?_) (fun hc95 => ?_)
    · have hh := hh.1 hc95
      refine rr_aload_n dX10_law_101 rfl rfl ?_
      refine rr_getR cf_X10 (j := 0) (by decide) dX10_law_102 rfl q_754 hh (fun r3 hh => ?_)
      refine rr_iconst dX10_law_105 rfl ⟨by decide, by decide⟩ ?_
      refine rr_iald dX10_law_106 rfl hh (fun n4 hh => ?_)
      refine rr_bipush dX10_law_107 rfl ⟨by decide, by decide⟩ rfl ?_
      refine rr_icmp_ne (tgt := 115) dX10_law_109 rfl (by decide) (fun hc109 => ?_) (fun hc109 => ?_)
      · have hh := hh.1 hc109
        refine rr_aload_n dX10_law_115 rfl rfl ?_
        refine rr_callW (bc' := bc) (bs' := bs) (q := (some x0)) (av := []) (st := []) mf_X10_keepPast dX10_law_116 rfl q_944 q_946 qs_42 ⟨_, _, rfl⟩ rfl (by decide) (Nat.le_refl _) (Nat.le_refl _) hh (rr_kV fun h5 hh => ?_)
        refine rr_aload_n dX10_law_119 rfl rfl ?_
        refine rr_iload_n dX10_law_120 rfl rfl ?_
        refine rr_iload_n dX10_law_121 rfl rfl ?_
        refine rr_iload_n dX10_law_122 rfl rfl ?_
        refine rr_iload dX10_law_123 rfl rfl ?_
        refine rr_iload dX10_law_125 rfl rfl ?_
        refine rr_iload dX10_law_127 rfl rfl ?_
        refine rr_callW (bc' := bc) (bs' := bs) (q := (some x0)) (av := [vI x1, vI x2, vI x3, vI x4, vI x5, vI x6]) (st := []) mf_X10_puts dX10_law_129 rfl q_903 q_905 qs_37 ⟨_, _, rfl⟩ rfl (by decide) (Nat.le_refl _) (Nat.le_refl _) hh (rr_kI fun n7 h6 hh => ?_)
        exact rr_iret dX10_law_132 rfl hh
      · have hh := hh.2 hc109
        refine rr_bipush dX10_law_112 rfl ⟨by decide, by decide⟩ rfl ?_
        exact rr_iret dX10_law_114 rfl hh
    · have hh := hh.2 hc95
      refine rr_bipush dX10_law_98 rfl ⟨by decide, by decide⟩ rfl ?_
      exact rr_iret dX10_law_100 rfl hh
theorem dX10_repeal_0 : decode cX10_repeal 0 = .ok (.aload_n 0, 1) := by decide +kernel
theorem dX10_repeal_1 : decode cX10_repeal 1 = .ok (.iload_n 1, 1) := by decide +kernel
theorem dX10_repeal_2 : decode cX10_repeal 2 = .ok (.invokevirtual 229, 3) := by decide +kernel
theorem dX10_repeal_5 : decode cX10_repeal 5 = .ok (.ifCond .ne 6, 3) := by decide +kernel
theorem dX10_repeal_8 : decode cX10_repeal 8 = .ok (.bipush (-2), 2) := by decide +kernel
theorem dX10_repeal_10 : decode cX10_repeal 10 = .ok (.ireturn, 1) := by decide +kernel
theorem dX10_repeal_11 : decode cX10_repeal 11 = .ok (.aload_n 0, 1) := by decide +kernel
theorem dX10_repeal_12 : decode cX10_repeal 12 = .ok (.invokevirtual 226, 3) := by decide +kernel
theorem dX10_repeal_15 : decode cX10_repeal 15 = .ok (.aload_n 0, 1) := by decide +kernel
theorem dX10_repeal_16 : decode cX10_repeal 16 = .ok (.getfield 7, 3) := by decide +kernel
theorem dX10_repeal_19 : decode cX10_repeal 19 = .ok (.iconst 0, 1) := by decide +kernel
theorem dX10_repeal_20 : decode cX10_repeal 20 = .ok (.dup2, 1) := by decide +kernel
theorem dX10_repeal_21 : decode cX10_repeal 21 = .ok (.iaload, 1) := by decide +kernel
theorem dX10_repeal_22 : decode cX10_repeal 22 = .ok (.iconst 1, 1) := by decide +kernel
theorem dX10_repeal_23 : decode cX10_repeal 23 = .ok (.isub, 1) := by decide +kernel
theorem dX10_repeal_24 : decode cX10_repeal 24 = .ok (.iastore, 1) := by decide +kernel
theorem dX10_repeal_25 : decode cX10_repeal 25 = .ok (.iconst 2, 1) := by decide +kernel
theorem dX10_repeal_26 : decode cX10_repeal 26 = .ok (.bipush 6, 2) := by decide +kernel
theorem dX10_repeal_28 : decode cX10_repeal 28 = .ok (.iload_n 1, 1) := by decide +kernel
theorem dX10_repeal_29 : decode cX10_repeal 29 = .ok (.imul, 1) := by decide +kernel
theorem dX10_repeal_30 : decode cX10_repeal 30 = .ok (.iadd, 1) := by decide +kernel
theorem dX10_repeal_31 : decode cX10_repeal 31 = .ok (.istore_n 2, 1) := by decide +kernel
theorem dX10_repeal_32 : decode cX10_repeal 32 = .ok (.iload_n 2, 1) := by decide +kernel
theorem dX10_repeal_33 : decode cX10_repeal 33 = .ok (.iconst 2, 1) := by decide +kernel
theorem dX10_repeal_34 : decode cX10_repeal 34 = .ok (.bipush 6, 2) := by decide +kernel
theorem dX10_repeal_36 : decode cX10_repeal 36 = .ok (.aload_n 0, 1) := by decide +kernel
theorem dX10_repeal_37 : decode cX10_repeal 37 = .ok (.getfield 7, 3) := by decide +kernel
theorem dX10_repeal_40 : decode cX10_repeal 40 = .ok (.iconst 0, 1) := by decide +kernel
theorem dX10_repeal_41 : decode cX10_repeal 41 = .ok (.iaload, 1) := by decide +kernel
theorem dX10_repeal_42 : decode cX10_repeal 42 = .ok (.imul, 1) := by decide +kernel
theorem dX10_repeal_43 : decode cX10_repeal 43 = .ok (.iadd, 1) := by decide +kernel
theorem dX10_repeal_44 : decode cX10_repeal 44 = .ok (.if_icmp .ge 24, 3) := by decide +kernel
theorem dX10_repeal_47 : decode cX10_repeal 47 = .ok (.aload_n 0, 1) := by decide +kernel
theorem dX10_repeal_48 : decode cX10_repeal 48 = .ok (.getfield 7, 3) := by decide +kernel
theorem dX10_repeal_51 : decode cX10_repeal 51 = .ok (.iload_n 2, 1) := by decide +kernel
theorem dX10_repeal_52 : decode cX10_repeal 52 = .ok (.aload_n 0, 1) := by decide +kernel
theorem dX10_repeal_53 : decode cX10_repeal 53 = .ok (.getfield 7, 3) := by decide +kernel
theorem dX10_repeal_56 : decode cX10_repeal 56 = .ok (.iload_n 2, 1) := by decide +kernel
theorem dX10_repeal_57 : decode cX10_repeal 57 = .ok (.bipush 6, 2) := by decide +kernel
theorem dX10_repeal_59 : decode cX10_repeal 59 = .ok (.iadd, 1) := by decide +kernel
theorem dX10_repeal_60 : decode cX10_repeal 60 = .ok (.iaload, 1) := by decide +kernel
theorem dX10_repeal_61 : decode cX10_repeal 61 = .ok (.iastore, 1) := by decide +kernel
theorem dX10_repeal_62 : decode cX10_repeal 62 = .ok (.iinc 2 1, 3) := by decide +kernel
theorem dX10_repeal_65 : decode cX10_repeal 65 = .ok (.goto (-33), 3) := by decide +kernel
theorem dX10_repeal_68 : decode cX10_repeal 68 = .ok (.aload_n 0, 1) := by decide +kernel
theorem dX10_repeal_69 : decode cX10_repeal 69 = .ok (.getfield 7, 3) := by decide +kernel
theorem dX10_repeal_72 : decode cX10_repeal 72 = .ok (.iconst 0, 1) := by decide +kernel
theorem dX10_repeal_73 : decode cX10_repeal 73 = .ok (.iaload, 1) := by decide +kernel
theorem dX10_repeal_74 : decode cX10_repeal 74 = .ok (.ireturn, 1) := by decide +kernel
set_option maxRecDepth 100000 in
theorem B_X10_repeal_0 {d : Nat} {h : AbH} {K : Option AbV → AbH → Prop} {x0 : Nat} {x1 : Int} (hh : wpCV h (some x0) 9 (fun b11 => Vm d m_X10_isLaw [vR (some b11), vI x1] h (kI (fun n2 h1 => ((n2 ≠ 0 → wpCV h1 (some x0) 9 (fun b10 => Vm d m_X10_keepPast [vR (some b10)] h1 (kV (fun h3 => wpGR h3 (some x0) 9 0 (fun r4 => wpLI h3 r4 0 (fun n5 => in32 (n5 - 1) ∧ wpSI h3 r4 0 (n5 - 1) (fun h7 => in32 (6 * x1) ∧ in32 (2 + (6 * x1)) ∧ Vx (d + 1) m_X10_repeal 0 0 32 [some (vR (some x0)), some (vI x1), some (vI (2 + (6 * x1)))] [] h7 K))))))) ∧ (¬ (n2 ≠ 0) → K (some (vI (-2))) h1)))))) : Vx (d + 1) m_X10_repeal 0 0 0 [some (vR (some x0)), some (vI x1)] [] h K := by
  refine Vx.pad 1 [some (vR (some x0)), some (vI x1), none] rfl ?_
  refine rr_aload_n dX10_repeal_0 rfl rfl ?_
  refine rr_iload_n dX10_repeal_1 rfl rfl ?_
  refine rr_callW (bc' := 0) (bs' := 0) (q := (some x0)) (av := [vI x1]) (st := []) mf_X10_isLaw dX10_repeal_2 rfl q_956 q_958 qs_44 ⟨_, _, rfl⟩ rfl (by decide) (Nat.le_refl _) (Nat.le_refl _) hh (rr_kI fun n2 h1 hh => ?_)
  refine rr_if_ne (tgt := 11) dX10_repeal_5 rfl (by decide) (fun hc5 => ?_) (fun hc5 => ?_)
  · have hh := hh.1 hc5
    refine rr_aload_n dX10_repeal_11 rfl rfl ?_
    refine rr_callW (bc' := 0) (bs' := 0) (q := (some x0)) (av := []) (st := []) mf_X10_keepPast dX10_repeal_12 rfl q_944 q_946 qs_42 ⟨_, _, rfl⟩ rfl (by decide) (Nat.le_refl _) (Nat.le_refl _) hh (rr_kV fun h3 hh => ?_)
    refine rr_aload_n dX10_repeal_15 rfl rfl ?_
    refine rr_getR cf_X10 (j := 0) (by decide) dX10_repeal_16 rfl q_754 hh (fun r4 hh => ?_)
    refine rr_iconst dX10_repeal_19 rfl ⟨by decide, by decide⟩ ?_
    refine rr_dup2 dX10_repeal_20 rfl rfl (ab_catR _) ?_
    refine rr_iald dX10_repeal_21 rfl hh (fun n5 hh => ?_)
    refine rr_iconst dX10_repeal_22 rfl ⟨by decide, by decide⟩ ?_
    obtain ⟨hz6, hh⟩ := hh
    refine rr_isub dX10_repeal_23 rfl hz6 ?_
    refine rr_iast dX10_repeal_24 rfl hh (fun h7 hh => ?_)
    refine rr_iconst dX10_repeal_25 rfl ⟨by decide, by decide⟩ ?_
    refine rr_bipush dX10_repeal_26 rfl ⟨by decide, by decide⟩ rfl ?_
    refine rr_iload_n dX10_repeal_28 rfl rfl ?_
    obtain ⟨hz8, hh⟩ := hh
    refine rr_imul dX10_repeal_29 rfl hz8 ?_
    obtain ⟨hz9, hh⟩ := hh
    refine rr_iadd dX10_repeal_30 rfl hz9 ?_
    refine rr_istore_n (ls' := [some (vR (some x0)), some (vI x1), some (vI (2 + (6 * x1)))]) dX10_repeal_31 rfl (by decide) (fun _ z => by cases z) rfl ?_
    exact hh
  · have hh := hh.2 hc5
    refine rr_bipush dX10_repeal_8 rfl ⟨by decide, by decide⟩ rfl ?_
    exact rr_iret dX10_repeal_10 rfl hh
set_option maxRecDepth 100000 in
theorem B_X10_repeal_32 {d : Nat} {h : AbH} {K : Option AbV → AbH → Prop} {x0 : Nat} {x1 : Int} {x2 : Int} {bc bs : Nat} (hh : wpGR h (some x0) 9 0 (fun r1 => wpLI h r1 0 (fun n2 => in32 (6 * n2) ∧ in32 (2 + (6 * n2)) ∧ (((2 + (6 * n2)) ≤ x2 → wpGR h (some x0) 9 0 (fun r5 => wpLI h r5 0 (fun n6 => K (some (vI n6)) h))) ∧ (¬ ((2 + (6 * n2)) ≤ x2) → wpGR h (some x0) 9 0 (fun r7 => wpGR h (some x0) 9 0 (fun r8 => in32 (x2 + 6) ∧ wpLI h r8 (x2 + 6) (fun n10 => wpSI h r7 x2 n10 (fun h11 => in32 (x2 + 1) ∧ Vx (d + 1) m_X10_repeal bc bs 32 [some (vR (some x0)), some (vI x1), some (vI (x2 + 1))] [] h11 K))))))))) : Vx (d + 1) m_X10_repeal bc bs 32 [some (vR (some x0)), some (vI x1), some (vI x2)] [] h K := by
  refine rr_iload_n dX10_repeal_32 rfl rfl ?_
  refine rr_iconst dX10_repeal_33 rfl ⟨by decide, by decide⟩ ?_
  refine rr_bipush dX10_repeal_34 rfl ⟨by decide, by decide⟩ rfl ?_
  refine rr_aload_n dX10_repeal_36 rfl rfl ?_
  refine rr_getR cf_X10 (j := 0) (by decide) dX10_repeal_37 rfl q_754 hh (fun r1 hh => ?_)
  refine rr_iconst dX10_repeal_40 rfl ⟨by decide, by decide⟩ ?_
  refine rr_iald dX10_repeal_41 rfl hh (fun n2 hh => ?_)
  obtain ⟨hz3, hh⟩ := hh
  refine rr_imul dX10_repeal_42 rfl hz3 ?_
  obtain ⟨hz4, hh⟩ := hh
  refine rr_iadd dX10_repeal_43 rfl hz4 ?_
  refine rr_icmp_ge (tgt := 68) dX10_repeal_44 rfl (by decide) (fun hc44 => ?_) (fun hc44 => ?_)
  · have hh := hh.1 hc44
    refine rr_aload_n dX10_repeal_68 rfl rfl ?_
    refine rr_getR cf_X10 (j := 0) (by decide) dX10_repeal_69 rfl q_754 hh (fun r5 hh => ?_)
    refine rr_iconst dX10_repeal_72 rfl ⟨by decide, by decide⟩ ?_
    refine rr_iald dX10_repeal_73 rfl hh (fun n6 hh => ?_)
    exact rr_iret dX10_repeal_74 rfl hh
  · have hh := hh.2 hc44
    refine rr_aload_n dX10_repeal_47 rfl rfl ?_
    refine rr_getR cf_X10 (j := 0) (by decide) dX10_repeal_48 rfl q_754 hh (fun r7 hh => ?_)
    refine rr_iload_n dX10_repeal_51 rfl rfl ?_
    refine rr_aload_n dX10_repeal_52 rfl rfl ?_
    refine rr_getR cf_X10 (j := 0) (by decide) dX10_repeal_53 rfl q_754 hh (fun r8 hh => ?_)
    refine rr_iload_n dX10_repeal_56 rfl rfl ?_
    refine rr_bipush dX10_repeal_57 rfl ⟨by decide, by decide⟩ rfl ?_
    obtain ⟨hz9, hh⟩ := hh
    refine rr_iadd dX10_repeal_59 rfl hz9 ?_
    refine rr_iald dX10_repeal_60 rfl hh (fun n10 hh => ?_)
    refine rr_iast dX10_repeal_61 rfl hh (fun h11 hh => ?_)
    obtain ⟨hz12, hh⟩ := hh
    refine rr_iinc (ls' := [some (vR (some x0)), some (vI x1), some (vI (x2 + 1))]) dX10_repeal_62 rfl rfl (by decide) (fun _ z => by cases z) hz12 rfl ?_
    refine rr_goto (pc' := 32) dX10_repeal_65 (by decide) ?_
    exact hh
theorem dX10_meet_0 : decode cX10_meet 0 = .ok (.iload_n 1, 1) := by decide +kernel
theorem dX10_meet_1 : decode cX10_meet 1 = .ok (.iload_n 2, 1) := by decide +kernel
theorem dX10_meet_2 : decode cX10_meet 2 = .ok (.invokestatic 232, 3) := by decide +kernel
theorem dX10_meet_5 : decode cX10_meet 5 = .ok (.ifCond .ne 6, 3) := by decide +kernel
theorem dX10_meet_8 : decode cX10_meet 8 = .ok (.bipush (-2), 2) := by decide +kernel
theorem dX10_meet_10 : decode cX10_meet 10 = .ok (.ireturn, 1) := by decide +kernel
theorem dX10_meet_11 : decode cX10_meet 11 = .ok (.iload_n 3, 1) := by decide +kernel
theorem dX10_meet_12 : decode cX10_meet 12 = .ok (.invokestatic 235, 3) := by decide +kernel
theorem dX10_meet_15 : decode cX10_meet 15 = .ok (.ifCond .eq 17, 3) := by decide +kernel
theorem dX10_meet_18 : decode cX10_meet 18 = .ok (.iload 4, 2) := by decide +kernel
theorem dX10_meet_20 : decode cX10_meet 20 = .ok (.i2l, 1) := by decide +kernel
theorem dX10_meet_21 : decode cX10_meet 21 = .ok (.iload_n 3, 1) := by decide +kernel
theorem dX10_meet_22 : decode cX10_meet 22 = .ok (.i2l, 1) := by decide +kernel
theorem dX10_meet_23 : decode cX10_meet 23 = .ok (.ldc2_w 60, 3) := by decide +kernel
theorem dX10_meet_26 : decode cX10_meet 26 = .ok (.invokestatic 52, 3) := by decide +kernel
theorem dX10_meet_29 : decode cX10_meet 29 = .ok (.ifCond .ne 6, 3) := by decide +kernel
theorem dX10_meet_32 : decode cX10_meet 32 = .ok (.bipush (-3), 2) := by decide +kernel
theorem dX10_meet_34 : decode cX10_meet 34 = .ok (.ireturn, 1) := by decide +kernel
theorem dX10_meet_35 : decode cX10_meet 35 = .ok (.aload_n 0, 1) := by decide +kernel
theorem dX10_meet_36 : decode cX10_meet 36 = .ok (.invokevirtual 226, 3) := by decide +kernel
theorem dX10_meet_39 : decode cX10_meet 39 = .ok (.aload_n 0, 1) := by decide +kernel
theorem dX10_meet_40 : decode cX10_meet 40 = .ok (.getfield 7, 3) := by decide +kernel
theorem dX10_meet_43 : decode cX10_meet 43 = .ok (.iload_n 1, 1) := by decide +kernel
theorem dX10_meet_44 : decode cX10_meet 44 = .ok (.iload_n 2, 1) := by decide +kernel
theorem dX10_meet_45 : decode cX10_meet 45 = .ok (.invokestatic 62, 3) := by decide +kernel
theorem dX10_meet_48 : decode cX10_meet 48 = .ok (.iload_n 3, 1) := by decide +kernel
theorem dX10_meet_49 : decode cX10_meet 49 = .ok (.iconst 1, 1) := by decide +kernel
theorem dX10_meet_50 : decode cX10_meet 50 = .ok (.iadd, 1) := by decide +kernel
theorem dX10_meet_51 : decode cX10_meet 51 = .ok (.iastore, 1) := by decide +kernel
theorem dX10_meet_52 : decode cX10_meet 52 = .ok (.aload_n 0, 1) := by decide +kernel
theorem dX10_meet_53 : decode cX10_meet 53 = .ok (.getfield 7, 3) := by decide +kernel
theorem dX10_meet_56 : decode cX10_meet 56 = .ok (.iload_n 1, 1) := by decide +kernel
theorem dX10_meet_57 : decode cX10_meet 57 = .ok (.iload_n 2, 1) := by decide +kernel
theorem dX10_meet_58 : decode cX10_meet 58 = .ok (.invokestatic 62, 3) := by decide +kernel
theorem dX10_meet_61 : decode cX10_meet 61 = .ok (.iconst 1, 1) := by decide +kernel
theorem dX10_meet_62 : decode cX10_meet 62 = .ok (.iadd, 1) := by decide +kernel
theorem dX10_meet_63 : decode cX10_meet 63 = .ok (.iload 4, 2) := by decide +kernel
theorem dX10_meet_65 : decode cX10_meet 65 = .ok (.iastore, 1) := by decide +kernel
theorem dX10_meet_66 : decode cX10_meet 66 = .ok (.aload_n 0, 1) := by decide +kernel
theorem dX10_meet_67 : decode cX10_meet 67 = .ok (.invokevirtual 238, 3) := by decide +kernel
theorem dX10_meet_70 : decode cX10_meet 70 = .ok (.ireturn, 1) := by decide +kernel
set_option maxRecDepth 100000 in
theorem B_X10_meet_0 {d : Nat} {h : AbH} {K : Option AbV → AbH → Prop} {x0 : Nat} {x1 : Int} {x2 : Int} {x3 : Int} {x4 : Int} (hh : Vm d m_X10_areTongues [vI x1, vI x2] h (kI (fun n2 h1 => ((n2 ≠ 0 → Vm d m_X10_isDate [vI x3] h1 (kI (fun n4 h3 => ((n4 = 0 → K (some (vI (-3))) h3) ∧ (¬ (n4 = 0) → Vm d m_X10_in [vL x4, vL x3, vL 99] h3 (kI (fun n6 h5 => ((n6 ≠ 0 → wpCV h5 (some x0) 9 (fun b21 => Vm d m_X10_keepPast [vR (some b21)] h5 (kV (fun h7 => wpGR h7 (some x0) 9 0 (fun r8 => Vm d m_X10_meetAt [vI x1, vI x2] h7 (kI (fun n10 h9 => in32 (x3 + 1) ∧ wpSI h9 r8 n10 (x3 + 1) (fun h12 => wpGR h12 (some x0) 9 0 (fun r13 => Vm d m_X10_meetAt [vI x1, vI x2] h12 (kI (fun n15 h14 => in32 (n15 + 1) ∧ wpSI h14 r13 (n15 + 1) x4 (fun h17 => wpCV h17 (some x0) 9 (fun b20 => Vm d m_X10_meetings [vR (some b20)] h17 (kI (fun n19 h18 => K (some (vI n19)) h18))))))))))))))) ∧ (¬ (n6 ≠ 0) → K (some (vI (-3))) h5))))))))) ∧ (¬ (n2 ≠ 0) → K (some (vI (-2))) h1))))) : Vx (d + 1) m_X10_meet 0 0 0 [some (vR (some x0)), some (vI x1), some (vI x2), some (vI x3), some (vI x4)] [] h K := by
  refine rr_iload_n dX10_meet_0 rfl rfl ?_
  refine rr_iload_n dX10_meet_1 rfl rfl ?_
  refine rr_callS (bc' := 0) (bs' := 0) (av := [vI x1, vI x2]) (st := []) mf_X10_areTongues dX10_meet_2 rfl q_964 q_965 rfl (by decide) (Nat.le_refl _) (Nat.le_refl _) hh (rr_kI fun n2 h1 hh => ?_)
  refine rr_if_ne (tgt := 11) dX10_meet_5 rfl (by decide) (fun hc5 => ?_) (fun hc5 => ?_)
  · have hh := hh.1 hc5
    refine rr_iload_n dX10_meet_11 rfl rfl ?_
    refine rr_callS (bc' := 0) (bs' := 0) (av := [vI x3]) (st := []) mf_X10_isDate dX10_meet_12 rfl q_967 q_968 rfl (by decide) (Nat.le_refl _) (Nat.le_refl _) hh (rr_kI fun n4 h3 hh => ?_)
    refine rr_if_eq (tgt := 32) dX10_meet_15 rfl (by decide) (fun hc15 => ?_) (fun hc15 => ?_)
    · have hh := hh.1 hc15
      refine rr_bipush dX10_meet_32 rfl ⟨by decide, by decide⟩ rfl ?_
      exact rr_iret dX10_meet_34 rfl hh
    · have hh := hh.2 hc15
      refine rr_iload dX10_meet_18 rfl rfl ?_
      refine rr_i2l dX10_meet_20 rfl ?_
      refine rr_iload_n dX10_meet_21 rfl rfl ?_
      refine rr_i2l dX10_meet_22 rfl ?_
      refine rr_ldc2 (n := 99) dX10_meet_23 rfl q_886 (by decide) ⟨by decide, by decide⟩ ?_
      refine rr_callS (bc' := 0) (bs' := 0) (av := [vL x4, vL x3, vL 99]) (st := []) mf_X10_in dX10_meet_26 rfl q_829 q_830 rfl (by decide) (Nat.le_refl _) (Nat.le_refl _) hh (rr_kI fun n6 h5 hh => ?_)
      refine rr_if_ne (tgt := 35) dX10_meet_29 rfl (by decide) (fun hc29 => ?_) (fun hc29 => ?_)
      · have hh := hh.1 hc29
        refine rr_aload_n dX10_meet_35 rfl rfl ?_
        refine rr_callW (bc' := 0) (bs' := 0) (q := (some x0)) (av := []) (st := []) mf_X10_keepPast dX10_meet_36 rfl q_944 q_946 qs_42 ⟨_, _, rfl⟩ rfl (by decide) (Nat.le_refl _) (Nat.le_refl _) hh (rr_kV fun h7 hh => ?_)
        refine rr_aload_n dX10_meet_39 rfl rfl ?_
        refine rr_getR cf_X10 (j := 0) (by decide) dX10_meet_40 rfl q_754 hh (fun r8 hh => ?_)
        refine rr_iload_n dX10_meet_43 rfl rfl ?_
        refine rr_iload_n dX10_meet_44 rfl rfl ?_
        refine rr_callS (bc' := 0) (bs' := 0) (av := [vI x1, vI x2]) (st := [vR r8]) mf_X10_meetAt dX10_meet_45 rfl q_911 q_912 rfl (cs_le _ (Nat.le_of_ble_eq_true rfl)) (Nat.le_refl _) (Nat.le_refl _) hh (rr_kI fun n10 h9 hh => ?_)
        refine rr_iload_n dX10_meet_48 rfl rfl ?_
        refine rr_iconst dX10_meet_49 rfl ⟨by decide, by decide⟩ ?_
        obtain ⟨hz11, hh⟩ := hh
        refine rr_iadd dX10_meet_50 rfl hz11 ?_
        refine rr_iast dX10_meet_51 rfl hh (fun h12 hh => ?_)
        refine rr_aload_n dX10_meet_52 rfl rfl ?_
        refine rr_getR cf_X10 (j := 0) (by decide) dX10_meet_53 rfl q_754 hh (fun r13 hh => ?_)
        refine rr_iload_n dX10_meet_56 rfl rfl ?_
        refine rr_iload_n dX10_meet_57 rfl rfl ?_
        refine rr_callS (bc' := 0) (bs' := 0) (av := [vI x1, vI x2]) (st := [vR r13]) mf_X10_meetAt dX10_meet_58 rfl q_911 q_912 rfl (cs_le _ (Nat.le_of_ble_eq_true rfl)) (Nat.le_refl _) (Nat.le_refl _) hh (rr_kI fun n15 h14 hh => ?_)
        refine rr_iconst dX10_meet_61 rfl ⟨by decide, by decide⟩ ?_
        obtain ⟨hz16, hh⟩ := hh
        refine rr_iadd dX10_meet_62 rfl hz16 ?_
        refine rr_iload dX10_meet_63 rfl rfl ?_
        refine rr_iast dX10_meet_65 rfl hh (fun h17 hh => ?_)
        refine rr_aload_n dX10_meet_66 rfl rfl ?_
        refine rr_callW (bc' := 0) (bs' := 0) (q := (some x0)) (av := []) (st := []) mf_X10_meetings dX10_meet_67 rfl q_970 q_972 qs_45 ⟨_, _, rfl⟩ rfl (by decide) (Nat.le_refl _) (Nat.le_refl _) hh (rr_kI fun n19 h18 hh => ?_)
        exact rr_iret dX10_meet_70 rfl hh
      · have hh := hh.2 hc29
        refine rr_bipush dX10_meet_32 rfl ⟨by decide, by decide⟩ rfl ?_
        exact rr_iret dX10_meet_34 rfl hh
  · have hh := hh.2 hc5
    refine rr_bipush dX10_meet_8 rfl ⟨by decide, by decide⟩ rfl ?_
    exact rr_iret dX10_meet_10 rfl hh
theorem dX10_part_0 : decode cX10_part 0 = .ok (.iload_n 1, 1) := by decide +kernel
theorem dX10_part_1 : decode cX10_part 1 = .ok (.iload_n 2, 1) := by decide +kernel
theorem dX10_part_2 : decode cX10_part 2 = .ok (.invokestatic 232, 3) := by decide +kernel
theorem dX10_part_5 : decode cX10_part 5 = .ok (.ifCond .eq 16, 3) := by decide +kernel
theorem dX10_part_8 : decode cX10_part 8 = .ok (.aload_n 0, 1) := by decide +kernel
theorem dX10_part_9 : decode cX10_part 9 = .ok (.getfield 7, 3) := by decide +kernel
theorem dX10_part_12 : decode cX10_part 12 = .ok (.iload_n 1, 1) := by decide +kernel
theorem dX10_part_13 : decode cX10_part 13 = .ok (.iload_n 2, 1) := by decide +kernel
theorem dX10_part_14 : decode cX10_part 14 = .ok (.invokestatic 62, 3) := by decide +kernel
theorem dX10_part_17 : decode cX10_part 17 = .ok (.iaload, 1) := by decide +kernel
theorem dX10_part_18 : decode cX10_part 18 = .ok (.ifCond .ne 6, 3) := by decide +kernel
theorem dX10_part_21 : decode cX10_part 21 = .ok (.bipush (-2), 2) := by decide +kernel
theorem dX10_part_23 : decode cX10_part 23 = .ok (.ireturn, 1) := by decide +kernel
theorem dX10_part_24 : decode cX10_part 24 = .ok (.aload_n 0, 1) := by decide +kernel
theorem dX10_part_25 : decode cX10_part 25 = .ok (.invokevirtual 226, 3) := by decide +kernel
theorem dX10_part_28 : decode cX10_part 28 = .ok (.aload_n 0, 1) := by decide +kernel
theorem dX10_part_29 : decode cX10_part 29 = .ok (.getfield 7, 3) := by decide +kernel
theorem dX10_part_32 : decode cX10_part 32 = .ok (.iload_n 1, 1) := by decide +kernel
theorem dX10_part_33 : decode cX10_part 33 = .ok (.iload_n 2, 1) := by decide +kernel
theorem dX10_part_34 : decode cX10_part 34 = .ok (.invokestatic 62, 3) := by decide +kernel
theorem dX10_part_37 : decode cX10_part 37 = .ok (.iconst 0, 1) := by decide +kernel
theorem dX10_part_38 : decode cX10_part 38 = .ok (.iastore, 1) := by decide +kernel
theorem dX10_part_39 : decode cX10_part 39 = .ok (.aload_n 0, 1) := by decide +kernel
theorem dX10_part_40 : decode cX10_part 40 = .ok (.getfield 7, 3) := by decide +kernel
theorem dX10_part_43 : decode cX10_part 43 = .ok (.iload_n 1, 1) := by decide +kernel
theorem dX10_part_44 : decode cX10_part 44 = .ok (.iload_n 2, 1) := by decide +kernel
theorem dX10_part_45 : decode cX10_part 45 = .ok (.invokestatic 62, 3) := by decide +kernel
theorem dX10_part_48 : decode cX10_part 48 = .ok (.iconst 1, 1) := by decide +kernel
theorem dX10_part_49 : decode cX10_part 49 = .ok (.iadd, 1) := by decide +kernel
theorem dX10_part_50 : decode cX10_part 50 = .ok (.iconst 0, 1) := by decide +kernel
theorem dX10_part_51 : decode cX10_part 51 = .ok (.iastore, 1) := by decide +kernel
theorem dX10_part_52 : decode cX10_part 52 = .ok (.aload_n 0, 1) := by decide +kernel
theorem dX10_part_53 : decode cX10_part 53 = .ok (.invokevirtual 238, 3) := by decide +kernel
theorem dX10_part_56 : decode cX10_part 56 = .ok (.ireturn, 1) := by decide +kernel
set_option maxRecDepth 100000 in
theorem B_X10_part_0 {d : Nat} {h : AbH} {K : Option AbV → AbH → Prop} {x0 : Nat} {x1 : Int} {x2 : Int} (hh : Vm d m_X10_areTongues [vI x1, vI x2] h (kI (fun n2 h1 => ((n2 = 0 → K (some (vI (-2))) h1) ∧ (¬ (n2 = 0) → wpGR h1 (some x0) 9 0 (fun r3 => Vm d m_X10_meetAt [vI x1, vI x2] h1 (kI (fun n5 h4 => wpLI h4 r3 n5 (fun n6 => ((n6 ≠ 0 → wpCV h4 (some x0) 9 (fun b20 => Vm d m_X10_keepPast [vR (some b20)] h4 (kV (fun h7 => wpGR h7 (some x0) 9 0 (fun r8 => Vm d m_X10_meetAt [vI x1, vI x2] h7 (kI (fun n10 h9 => wpSI h9 r8 n10 0 (fun h11 => wpGR h11 (some x0) 9 0 (fun r12 => Vm d m_X10_meetAt [vI x1, vI x2] h11 (kI (fun n14 h13 => in32 (n14 + 1) ∧ wpSI h13 r12 (n14 + 1) 0 (fun h16 => wpCV h16 (some x0) 9 (fun b19 => Vm d m_X10_meetings [vR (some b19)] h16 (kI (fun n18 h17 => K (some (vI n18)) h17))))))))))))))) ∧ (¬ (n6 ≠ 0) → K (some (vI (-2))) h4))))))))))) : Vx (d + 1) m_X10_part 0 0 0 [some (vR (some x0)), some (vI x1), some (vI x2)] [] h K := by
  refine rr_iload_n dX10_part_0 rfl rfl ?_
  refine rr_iload_n dX10_part_1 rfl rfl ?_
  refine rr_callS (bc' := 0) (bs' := 0) (av := [vI x1, vI x2]) (st := []) mf_X10_areTongues dX10_part_2 rfl q_964 q_965 rfl (by decide) (Nat.le_refl _) (Nat.le_refl _) hh (rr_kI fun n2 h1 hh => ?_)
  refine rr_if_eq (tgt := 21) dX10_part_5 rfl (by decide) (fun hc5 => ?_) (fun hc5 => ?_)
  · have hh := hh.1 hc5
    refine rr_bipush dX10_part_21 rfl ⟨by decide, by decide⟩ rfl ?_
    exact rr_iret dX10_part_23 rfl hh
  · have hh := hh.2 hc5
    refine rr_aload_n dX10_part_8 rfl rfl ?_
    refine rr_getR cf_X10 (j := 0) (by decide) dX10_part_9 rfl q_754 hh (fun r3 hh => ?_)
    refine rr_iload_n dX10_part_12 rfl rfl ?_
    refine rr_iload_n dX10_part_13 rfl rfl ?_
    refine rr_callS (bc' := 0) (bs' := 0) (av := [vI x1, vI x2]) (st := [vR r3]) mf_X10_meetAt dX10_part_14 rfl q_911 q_912 rfl (cs_le _ (Nat.le_of_ble_eq_true rfl)) (Nat.le_refl _) (Nat.le_refl _) hh (rr_kI fun n5 h4 hh => ?_)
    refine rr_iald dX10_part_17 rfl hh (fun n6 hh => ?_)
    refine rr_if_ne (tgt := 24) dX10_part_18 rfl (by decide) (fun hc18 => ?_) (fun hc18 => ?_)
    · have hh := hh.1 hc18
      refine rr_aload_n dX10_part_24 rfl rfl ?_
      refine rr_callW (bc' := 0) (bs' := 0) (q := (some x0)) (av := []) (st := []) mf_X10_keepPast dX10_part_25 rfl q_944 q_946 qs_42 ⟨_, _, rfl⟩ rfl (by decide) (Nat.le_refl _) (Nat.le_refl _) hh (rr_kV fun h7 hh => ?_)
      refine rr_aload_n dX10_part_28 rfl rfl ?_
      refine rr_getR cf_X10 (j := 0) (by decide) dX10_part_29 rfl q_754 hh (fun r8 hh => ?_)
      refine rr_iload_n dX10_part_32 rfl rfl ?_
      refine rr_iload_n dX10_part_33 rfl rfl ?_
      refine rr_callS (bc' := 0) (bs' := 0) (av := [vI x1, vI x2]) (st := [vR r8]) mf_X10_meetAt dX10_part_34 rfl q_911 q_912 rfl (cs_le _ (Nat.le_of_ble_eq_true rfl)) (Nat.le_refl _) (Nat.le_refl _) hh (rr_kI fun n10 h9 hh => ?_)
      refine rr_iconst dX10_part_37 rfl ⟨by decide, by decide⟩ ?_
      refine rr_iast dX10_part_38 rfl hh (fun h11 hh => ?_)
      refine rr_aload_n dX10_part_39 rfl rfl ?_
      refine rr_getR cf_X10 (j := 0) (by decide) dX10_part_40 rfl q_754 hh (fun r12 hh => ?_)
      refine rr_iload_n dX10_part_43 rfl rfl ?_
      refine rr_iload_n dX10_part_44 rfl rfl ?_
      refine rr_callS (bc' := 0) (bs' := 0) (av := [vI x1, vI x2]) (st := [vR r12]) mf_X10_meetAt dX10_part_45 rfl q_911 q_912 rfl (cs_le _ (Nat.le_of_ble_eq_true rfl)) (Nat.le_refl _) (Nat.le_refl _) hh (rr_kI fun n14 h13 hh => ?_)
      refine rr_iconst dX10_part_48 rfl ⟨by decide, by decide⟩ ?_
      obtain ⟨hz15, hh⟩ := hh
      refine rr_iadd dX10_part_49 rfl hz15 ?_
      refine rr_iconst dX10_part_50 rfl ⟨by decide, by decide⟩ ?_
      refine rr_iast dX10_part_51 rfl hh (fun h16 hh => ?_)
      refine rr_aload_n dX10_part_52 rfl rfl ?_
      refine rr_callW (bc' := 0) (bs' := 0) (q := (some x0)) (av := []) (st := []) mf_X10_meetings dX10_part_53 rfl q_970 q_972 qs_45 ⟨_, _, rfl⟩ rfl (by decide) (Nat.le_refl _) (Nat.le_refl _) hh (rr_kI fun n18 h17 hh => ?_)
      exact rr_iret dX10_part_56 rfl hh
    · have hh := hh.2 hc18
      refine rr_bipush dX10_part_21 rfl ⟨by decide, by decide⟩ rfl ?_
      exact rr_iret dX10_part_23 rfl hh
theorem dX10_lend_0 : decode cX10_lend 0 = .ok (.aload_n 0, 1) := by decide +kernel
theorem dX10_lend_1 : decode cX10_lend 1 = .ok (.iload_n 1, 1) := by decide +kernel
theorem dX10_lend_2 : decode cX10_lend 2 = .ok (.invokevirtual 241, 3) := by decide +kernel
theorem dX10_lend_5 : decode cX10_lend 5 = .ok (.ifCond .eq 11, 3) := by decide +kernel
theorem dX10_lend_8 : decode cX10_lend 8 = .ok (.iload_n 2, 1) := by decide +kernel
theorem dX10_lend_9 : decode cX10_lend 9 = .ok (.iload_n 3, 1) := by decide +kernel
theorem dX10_lend_10 : decode cX10_lend 10 = .ok (.invokestatic 232, 3) := by decide +kernel
theorem dX10_lend_13 : decode cX10_lend 13 = .ok (.ifCond .ne 6, 3) := by decide +kernel
theorem dX10_lend_16 : decode cX10_lend 16 = .ok (.bipush (-2), 2) := by decide +kernel
theorem dX10_lend_18 : decode cX10_lend 18 = .ok (.ireturn, 1) := by decide +kernel
theorem dX10_lend_19 : decode cX10_lend 19 = .ok (.iload 4, 2) := by decide +kernel
theorem dX10_lend_21 : decode cX10_lend 21 = .ok (.invokestatic 235, 3) := by decide +kernel
theorem dX10_lend_24 : decode cX10_lend 24 = .ok (.ifCond .ne 6, 3) := by decide +kernel
theorem dX10_lend_27 : decode cX10_lend 27 = .ok (.bipush (-3), 2) := by decide +kernel
theorem dX10_lend_29 : decode cX10_lend 29 = .ok (.ireturn, 1) := by decide +kernel
theorem dX10_lend_30 : decode cX10_lend 30 = .ok (.aload_n 0, 1) := by decide +kernel
theorem dX10_lend_31 : decode cX10_lend 31 = .ok (.getfield 7, 3) := by decide +kernel
theorem dX10_lend_34 : decode cX10_lend 34 = .ok (.iconst 1, 1) := by decide +kernel
theorem dX10_lend_35 : decode cX10_lend 35 = .ok (.iaload, 1) := by decide +kernel
theorem dX10_lend_36 : decode cX10_lend 36 = .ok (.bipush 12, 2) := by decide +kernel
theorem dX10_lend_38 : decode cX10_lend 38 = .ok (.if_icmp .ne 6, 3) := by decide +kernel
theorem dX10_lend_41 : decode cX10_lend 41 = .ok (.bipush (-5), 2) := by decide +kernel
theorem dX10_lend_43 : decode cX10_lend 43 = .ok (.ireturn, 1) := by decide +kernel
theorem dX10_lend_44 : decode cX10_lend 44 = .ok (.aload_n 0, 1) := by decide +kernel
theorem dX10_lend_45 : decode cX10_lend 45 = .ok (.invokevirtual 226, 3) := by decide +kernel
theorem dX10_lend_48 : decode cX10_lend 48 = .ok (.aload_n 0, 1) := by decide +kernel
theorem dX10_lend_49 : decode cX10_lend 49 = .ok (.getfield 7, 3) := by decide +kernel
theorem dX10_lend_52 : decode cX10_lend 52 = .ok (.iconst 1, 1) := by decide +kernel
theorem dX10_lend_53 : decode cX10_lend 53 = .ok (.iaload, 1) := by decide +kernel
theorem dX10_lend_54 : decode cX10_lend 54 = .ok (.invokestatic 128, 3) := by decide +kernel
theorem dX10_lend_57 : decode cX10_lend 57 = .ok (.istore 5, 2) := by decide +kernel
theorem dX10_lend_59 : decode cX10_lend 59 = .ok (.aload_n 0, 1) := by decide +kernel
theorem dX10_lend_60 : decode cX10_lend 60 = .ok (.getfield 7, 3) := by decide +kernel
theorem dX10_lend_63 : decode cX10_lend 63 = .ok (.iconst 1, 1) := by decide +kernel
theorem dX10_lend_64 : decode cX10_lend 64 = .ok (.dup2, 1) := by decide +kernel
theorem dX10_lend_65 : decode cX10_lend 65 = .ok (.iaload, 1) := by decide +kernel
theorem dX10_lend_66 : decode cX10_lend 66 = .ok (.iconst 1, 1) := by decide +kernel
theorem dX10_lend_67 : decode cX10_lend 67 = .ok (.iadd, 1) := by decide +kernel
theorem dX10_lend_68 : decode cX10_lend 68 = .ok (.iastore, 1) := by decide +kernel
theorem dX10_lend_69 : decode cX10_lend 69 = .ok (.iconst 2, 1) := by decide +kernel
theorem dX10_lend_70 : decode cX10_lend 70 = .ok (.istore 6, 2) := by decide +kernel
theorem dX10_lend_72 : decode cX10_lend 72 = .ok (.iload 6, 2) := by decide +kernel
theorem dX10_lend_74 : decode cX10_lend 74 = .ok (.bipush 12, 2) := by decide +kernel
theorem dX10_lend_76 : decode cX10_lend 76 = .ok (.if_icmp .ge 31, 3) := by decide +kernel
theorem dX10_lend_79 : decode cX10_lend 79 = .ok (.aload_n 0, 1) := by decide +kernel
theorem dX10_lend_80 : decode cX10_lend 80 = .ok (.getfield 7, 3) := by decide +kernel
theorem dX10_lend_83 : decode cX10_lend 83 = .ok (.iload 5, 2) := by decide +kernel
theorem dX10_lend_85 : decode cX10_lend 85 = .ok (.iload 6, 2) := by decide +kernel
theorem dX10_lend_87 : decode cX10_lend 87 = .ok (.iadd, 1) := by decide +kernel
theorem dX10_lend_88 : decode cX10_lend 88 = .ok (.aload_n 0, 1) := by decide +kernel
theorem dX10_lend_89 : decode cX10_lend 89 = .ok (.getfield 7, 3) := by decide +kernel
theorem dX10_lend_92 : decode cX10_lend 92 = .ok (.iload_n 1, 1) := by decide +kernel
theorem dX10_lend_93 : decode cX10_lend 93 = .ok (.invokestatic 128, 3) := by decide +kernel
theorem dX10_lend_96 : decode cX10_lend 96 = .ok (.iload 6, 2) := by decide +kernel
theorem dX10_lend_98 : decode cX10_lend 98 = .ok (.iadd, 1) := by decide +kernel
theorem dX10_lend_99 : decode cX10_lend 99 = .ok (.iaload, 1) := by decide +kernel
theorem dX10_lend_100 : decode cX10_lend 100 = .ok (.iastore, 1) := by decide +kernel
theorem dX10_lend_101 : decode cX10_lend 101 = .ok (.iinc 6 1, 3) := by decide +kernel
theorem dX10_lend_104 : decode cX10_lend 104 = .ok (.goto (-32), 3) := by decide +kernel
theorem dX10_lend_107 : decode cX10_lend 107 = .ok (.aload_n 0, 1) := by decide +kernel
theorem dX10_lend_108 : decode cX10_lend 108 = .ok (.iload_n 1, 1) := by decide +kernel
theorem dX10_lend_109 : decode cX10_lend 109 = .ok (.iload_n 2, 1) := by decide +kernel
theorem dX10_lend_110 : decode cX10_lend 110 = .ok (.iload_n 3, 1) := by decide +kernel
theorem dX10_lend_111 : decode cX10_lend 111 = .ok (.iload 4, 2) := by decide +kernel
theorem dX10_lend_113 : decode cX10_lend 113 = .ok (.invokevirtual 190, 3) := by decide +kernel
theorem dX10_lend_116 : decode cX10_lend 116 = .ok (.aload_n 0, 1) := by decide +kernel
theorem dX10_lend_117 : decode cX10_lend 117 = .ok (.getfield 7, 3) := by decide +kernel
theorem dX10_lend_120 : decode cX10_lend 120 = .ok (.iload 5, 2) := by decide +kernel
theorem dX10_lend_122 : decode cX10_lend 122 = .ok (.iconst 0, 1) := by decide +kernel
theorem dX10_lend_123 : decode cX10_lend 123 = .ok (.iadd, 1) := by decide +kernel
theorem dX10_lend_124 : decode cX10_lend 124 = .ok (.iload_n 2, 1) := by decide +kernel
theorem dX10_lend_125 : decode cX10_lend 125 = .ok (.iastore, 1) := by decide +kernel
theorem dX10_lend_126 : decode cX10_lend 126 = .ok (.aload_n 0, 1) := by decide +kernel
theorem dX10_lend_127 : decode cX10_lend 127 = .ok (.getfield 7, 3) := by decide +kernel
theorem dX10_lend_130 : decode cX10_lend 130 = .ok (.iload 5, 2) := by decide +kernel
theorem dX10_lend_132 : decode cX10_lend 132 = .ok (.iconst 1, 1) := by decide +kernel
theorem dX10_lend_133 : decode cX10_lend 133 = .ok (.iadd, 1) := by decide +kernel
theorem dX10_lend_134 : decode cX10_lend 134 = .ok (.iload_n 3, 1) := by decide +kernel
theorem dX10_lend_135 : decode cX10_lend 135 = .ok (.iastore, 1) := by decide +kernel
theorem dX10_lend_136 : decode cX10_lend 136 = .ok (.aload_n 0, 1) := by decide +kernel
theorem dX10_lend_137 : decode cX10_lend 137 = .ok (.getfield 7, 3) := by decide +kernel
theorem dX10_lend_140 : decode cX10_lend 140 = .ok (.iload 5, 2) := by decide +kernel
theorem dX10_lend_142 : decode cX10_lend 142 = .ok (.iconst 3, 1) := by decide +kernel
theorem dX10_lend_143 : decode cX10_lend 143 = .ok (.iadd, 1) := by decide +kernel
theorem dX10_lend_144 : decode cX10_lend 144 = .ok (.aload_n 0, 1) := by decide +kernel
theorem dX10_lend_145 : decode cX10_lend 145 = .ok (.getfield 169, 3) := by decide +kernel
theorem dX10_lend_148 : decode cX10_lend 148 = .ok (.iastore, 1) := by decide +kernel
theorem dX10_lend_149 : decode cX10_lend 149 = .ok (.iconst 0, 1) := by decide +kernel
theorem dX10_lend_150 : decode cX10_lend 150 = .ok (.istore 6, 2) := by decide +kernel
theorem dX10_lend_152 : decode cX10_lend 152 = .ok (.iload 6, 2) := by decide +kernel
theorem dX10_lend_154 : decode cX10_lend 154 = .ok (.aload_n 0, 1) := by decide +kernel
theorem dX10_lend_155 : decode cX10_lend 155 = .ok (.getfield 169, 3) := by decide +kernel
theorem dX10_lend_158 : decode cX10_lend 158 = .ok (.if_icmp .ge 29, 3) := by decide +kernel
theorem dX10_lend_161 : decode cX10_lend 161 = .ok (.aload_n 0, 1) := by decide +kernel
theorem dX10_lend_162 : decode cX10_lend 162 = .ok (.getfield 7, 3) := by decide +kernel
theorem dX10_lend_165 : decode cX10_lend 165 = .ok (.iload 5, 2) := by decide +kernel
theorem dX10_lend_167 : decode cX10_lend 167 = .ok (.bipush 12, 2) := by decide +kernel
theorem dX10_lend_169 : decode cX10_lend 169 = .ok (.iadd, 1) := by decide +kernel
theorem dX10_lend_170 : decode cX10_lend 170 = .ok (.iload 6, 2) := by decide +kernel
theorem dX10_lend_172 : decode cX10_lend 172 = .ok (.iadd, 1) := by decide +kernel
theorem dX10_lend_173 : decode cX10_lend 173 = .ok (.aload_n 0, 1) := by decide +kernel
theorem dX10_lend_174 : decode cX10_lend 174 = .ok (.getfield 29, 3) := by decide +kernel
theorem dX10_lend_177 : decode cX10_lend 177 = .ok (.iload 6, 2) := by decide +kernel
theorem dX10_lend_179 : decode cX10_lend 179 = .ok (.iaload, 1) := by decide +kernel
theorem dX10_lend_180 : decode cX10_lend 180 = .ok (.iastore, 1) := by decide +kernel
theorem dX10_lend_181 : decode cX10_lend 181 = .ok (.iinc 6 1, 3) := by decide +kernel
theorem dX10_lend_184 : decode cX10_lend 184 = .ok (.goto (-32), 3) := by decide +kernel
theorem dX10_lend_187 : decode cX10_lend 187 = .ok (.aload_n 0, 1) := by decide +kernel
theorem dX10_lend_188 : decode cX10_lend 188 = .ok (.getfield 7, 3) := by decide +kernel
theorem dX10_lend_191 : decode cX10_lend 191 = .ok (.iconst 1, 1) := by decide +kernel
theorem dX10_lend_192 : decode cX10_lend 192 = .ok (.iaload, 1) := by decide +kernel
theorem dX10_lend_193 : decode cX10_lend 193 = .ok (.ireturn, 1) := by decide +kernel
set_option maxRecDepth 100000 in
theorem B_X10_lend_0 {d : Nat} {h : AbH} {K : Option AbV → AbH → Prop} {x0 : Nat} {x1 : Int} {x2 : Int} {x3 : Int} {x4 : Int} (hh : wpCV h (some x0) 9 (fun b19 => Vm d m_X10_isLoan [vR (some b19), vI x1] h (kI (fun n2 h1 => ((n2 = 0 → K (some (vI (-2))) h1) ∧ (¬ (n2 = 0) → Vm d m_X10_areTongues [vI x2, vI x3] h1 (kI (fun n4 h3 => ((n4 ≠ 0 → Vm d m_X10_isDate [vI x4] h3 (kI (fun n6 h5 => ((n6 ≠ 0 → wpGR h5 (some x0) 9 0 (fun r7 => wpLI h5 r7 1 (fun n8 => ((n8 ≠ 12 → wpCV h5 (some x0) 9 (fun b18 => Vm d m_X10_keepPast [vR (some b18)] h5 (kV (fun h9 => wpGR h9 (some x0) 9 0 (fun r10 => wpLI h9 r10 1 (fun n11 => Vm d m_X10_loanAt [vI n11] h9 (kI (fun n13 h12 => wpGR h12 (some x0) 9 0 (fun r14 => wpLI h12 r14 1 (fun n15 => in32 (n15 + 1) ∧ wpSI h12 r14 1 (n15 + 1) (fun h17 => Vx (d + 1) m_X10_lend 0 0 72 [some (vR (some x0)), some (vI x1), some (vI x2), some (vI x3), some (vI x4), some (vI n13), some (vI 2)] [] h17 K))))))))))) ∧ (¬ (n8 ≠ 12) → K (some (vI (-5))) h5))))) ∧ (¬ (n6 ≠ 0) → K (some (vI (-3))) h5))))) ∧ (¬ (n4 ≠ 0) → K (some (vI (-2))) h3)))))))))) : Vx (d + 1) m_X10_lend 0 0 0 [some (vR (some x0)), some (vI x1), some (vI x2), some (vI x3), some (vI x4)] [] h K := by
  refine Vx.pad 2 [some (vR (some x0)), some (vI x1), some (vI x2), some (vI x3), some (vI x4), none, none] rfl ?_
  refine rr_aload_n dX10_lend_0 rfl rfl ?_
  refine rr_iload_n dX10_lend_1 rfl rfl ?_
  refine rr_callW (bc' := 0) (bs' := 0) (q := (some x0)) (av := [vI x1]) (st := []) mf_X10_isLoan dX10_lend_2 rfl q_982 q_984 qs_46 ⟨_, _, rfl⟩ rfl (by decide) (Nat.le_refl _) (Nat.le_refl _) hh (rr_kI fun n2 h1 hh => ?_)
  refine rr_if_eq (tgt := 16) dX10_lend_5 rfl (by decide) (fun hc5 => ?_) (fun hc5 => ?_)
  · have hh := hh.1 hc5
    refine rr_bipush dX10_lend_16 rfl ⟨by decide, by decide⟩ rfl ?_
    exact rr_iret dX10_lend_18 rfl hh
  · have hh := hh.2 hc5
    refine rr_iload_n dX10_lend_8 rfl rfl ?_
    refine rr_iload_n dX10_lend_9 rfl rfl ?_
    refine rr_callS (bc' := 0) (bs' := 0) (av := [vI x2, vI x3]) (st := []) mf_X10_areTongues dX10_lend_10 rfl q_964 q_965 rfl (by decide) (Nat.le_refl _) (Nat.le_refl _) hh (rr_kI fun n4 h3 hh => ?_)
    refine rr_if_ne (tgt := 19) dX10_lend_13 rfl (by decide) (fun hc13 => ?_) (fun hc13 => ?_)
    · have hh := hh.1 hc13
      refine rr_iload dX10_lend_19 rfl rfl ?_
      refine rr_callS (bc' := 0) (bs' := 0) (av := [vI x4]) (st := []) mf_X10_isDate dX10_lend_21 rfl q_967 q_968 rfl (by decide) (Nat.le_refl _) (Nat.le_refl _) hh (rr_kI fun n6 h5 hh => ?_)
      refine rr_if_ne (tgt := 30) dX10_lend_24 rfl (by decide) (fun hc24 => ?_) (fun hc24 => ?_)
      · have hh := hh.1 hc24
        refine rr_aload_n dX10_lend_30 rfl rfl ?_
        refine rr_getR cf_X10 (j := 0) (by decide) dX10_lend_31 rfl q_754 hh (fun r7 hh => ?_)
        refine rr_iconst dX10_lend_34 rfl ⟨by decide, by decide⟩ ?_
        refine rr_iald dX10_lend_35 rfl hh (fun n8 hh => ?_)
        refine rr_bipush dX10_lend_36 rfl ⟨by decide, by decide⟩ rfl ?_
        refine rr_icmp_ne (tgt := 44) dX10_lend_38 rfl (by decide) (fun hc38 => ?_) (fun hc38 => ?_)
        · have hh := hh.1 hc38
          refine rr_aload_n dX10_lend_44 rfl rfl ?_
          refine rr_callW (bc' := 0) (bs' := 0) (q := (some x0)) (av := []) (st := []) mf_X10_keepPast dX10_lend_45 rfl q_944 q_946 qs_42 ⟨_, _, rfl⟩ rfl (by decide) (Nat.le_refl _) (Nat.le_refl _) hh (rr_kV fun h9 hh => ?_)
          refine rr_aload_n dX10_lend_48 rfl rfl ?_
          refine rr_getR cf_X10 (j := 0) (by decide) dX10_lend_49 rfl q_754 hh (fun r10 hh => ?_)
          refine rr_iconst dX10_lend_52 rfl ⟨by decide, by decide⟩ ?_
          refine rr_iald dX10_lend_53 rfl hh (fun n11 hh => ?_)
          refine rr_callS (bc' := 0) (bs' := 0) (av := [vI n11]) (st := []) mf_X10_loanAt dX10_lend_54 rfl q_918 q_919 rfl (by decide) (Nat.le_refl _) (Nat.le_refl _) hh (rr_kI fun n13 h12 hh => ?_)
          refine rr_istore (ls' := [some (vR (some x0)), some (vI x1), some (vI x2), some (vI x3), some (vI x4), some (vI n13), none]) dX10_lend_57 rfl (by decide) (fun _ z => by cases z) rfl ?_
          refine rr_aload_n dX10_lend_59 rfl rfl ?_
          refine rr_getR cf_X10 (j := 0) (by decide) dX10_lend_60 rfl q_754 hh (fun r14 hh => ?_)
          refine rr_iconst dX10_lend_63 rfl ⟨by decide, by decide⟩ ?_
          refine rr_dup2 dX10_lend_64 rfl rfl (ab_catR _) ?_
          refine rr_iald dX10_lend_65 rfl hh (fun n15 hh => ?_)
          refine rr_iconst dX10_lend_66 rfl ⟨by decide, by decide⟩ ?_
          obtain ⟨hz16, hh⟩ := hh
          refine rr_iadd dX10_lend_67 rfl hz16 ?_
          refine rr_iast dX10_lend_68 rfl hh (fun h17 hh => ?_)
          refine rr_iconst dX10_lend_69 rfl ⟨by decide, by decide⟩ ?_
          refine rr_istore (ls' := [some (vR (some x0)), some (vI x1), some (vI x2), some (vI x3), some (vI x4), some (vI n13), some (vI 2)]) dX10_lend_70 rfl (by decide) (fun _ z => by cases z) rfl ?_
          exact hh
        · have hh := hh.2 hc38
          refine rr_bipush dX10_lend_41 rfl ⟨by decide, by decide⟩ rfl ?_
          exact rr_iret dX10_lend_43 rfl hh
      · have hh := hh.2 hc24
        refine rr_bipush dX10_lend_27 rfl ⟨by decide, by decide⟩ rfl ?_
        exact rr_iret dX10_lend_29 rfl hh
    · have hh := hh.2 hc13
      refine rr_bipush dX10_lend_16 rfl ⟨by decide, by decide⟩ rfl ?_
      exact rr_iret dX10_lend_18 rfl hh
set_option maxRecDepth 100000 in
theorem B_X10_lend_72 {d : Nat} {h : AbH} {K : Option AbV → AbH → Prop} {x0 : Nat} {x1 : Int} {x2 : Int} {x3 : Int} {x4 : Int} {x5 : Int} {x6 : Int} {bc bs : Nat} (hh : ((12 ≤ x6 → wpCV h (some x0) 9 (fun b12 => Vm d m_X10_takes [vR (some b12), vI x1, vI x2, vI x3, vI x4] h (kV (fun h1 => wpGR h1 (some x0) 9 0 (fun r2 => in32 (x5 + 0) ∧ wpSI h1 r2 (x5 + 0) x2 (fun h4 => wpGR h4 (some x0) 9 0 (fun r5 => in32 (x5 + 1) ∧ wpSI h4 r5 (x5 + 1) x3 (fun h7 => wpGR h7 (some x0) 9 0 (fun r8 => in32 (x5 + 3) ∧ wpGI h7 (some x0) 9 15 (fun n10 => wpSI h7 r8 (x5 + 3) n10 (fun h11 => Vx (d + 1) m_X10_lend bc bs 152 [some (vR (some x0)), some (vI x1), some (vI x2), some (vI x3), some (vI x4), some (vI x5), some (vI 0)] [] h11 K))))))))))) ∧ (¬ (12 ≤ x6) → wpGR h (some x0) 9 0 (fun r13 => in32 (x5 + x6) ∧ wpGR h (some x0) 9 0 (fun r15 => Vm d m_X10_loanAt [vI x1] h (kI (fun n17 h16 => in32 (n17 + x6) ∧ wpLI h16 r15 (n17 + x6) (fun n19 => wpSI h16 r13 (x5 + x6) n19 (fun h20 => in32 (x6 + 1) ∧ Vx (d + 1) m_X10_lend bc bs 72 [some (vR (some x0)), some (vI x1), some (vI x2), some (vI x3), some (vI x4), some (vI x5), some (vI (x6 + 1))] [] h20 K))))))))) : Vx (d + 1) m_X10_lend bc bs 72 [some (vR (some x0)), some (vI x1), some (vI x2), some (vI x3), some (vI x4), some (vI x5), some (vI x6)] [] h K := by
  refine rr_iload dX10_lend_72 rfl rfl ?_
  refine rr_bipush dX10_lend_74 rfl ⟨by decide, by decide⟩ rfl ?_
  refine rr_icmp_ge (tgt := 107) dX10_lend_76 rfl (by decide) (fun hc76 => ?_) (fun hc76 => ?_)
  · have hh := hh.1 hc76
    refine rr_aload_n dX10_lend_107 rfl rfl ?_
    refine rr_iload_n dX10_lend_108 rfl rfl ?_
    refine rr_iload_n dX10_lend_109 rfl rfl ?_
    refine rr_iload_n dX10_lend_110 rfl rfl ?_
    refine rr_iload dX10_lend_111 rfl rfl ?_
    refine rr_callW (bc' := bc) (bs' := bs) (q := (some x0)) (av := [vI x1, vI x2, vI x3, vI x4]) (st := []) mf_X10_takes dX10_lend_113 rfl q_986 q_988 qs_47 ⟨_, _, rfl⟩ rfl (by decide) (Nat.le_refl _) (Nat.le_refl _) hh (rr_kV fun h1 hh => ?_)
    refine rr_aload_n dX10_lend_116 rfl rfl ?_
    refine rr_getR cf_X10 (j := 0) (by decide) dX10_lend_117 rfl q_754 hh (fun r2 hh => ?_)
    refine rr_iload dX10_lend_120 rfl rfl ?_
    refine rr_iconst dX10_lend_122 rfl ⟨by decide, by decide⟩ ?_
    obtain ⟨hz3, hh⟩ := hh
    refine rr_iadd dX10_lend_123 rfl hz3 ?_
    refine rr_iload_n dX10_lend_124 rfl rfl ?_
    refine rr_iast dX10_lend_125 rfl hh (fun h4 hh => ?_)
    refine rr_aload_n dX10_lend_126 rfl rfl ?_
    refine rr_getR cf_X10 (j := 0) (by decide) dX10_lend_127 rfl q_754 hh (fun r5 hh => ?_)
    refine rr_iload dX10_lend_130 rfl rfl ?_
    refine rr_iconst dX10_lend_132 rfl ⟨by decide, by decide⟩ ?_
    obtain ⟨hz6, hh⟩ := hh
    refine rr_iadd dX10_lend_133 rfl hz6 ?_
    refine rr_iload_n dX10_lend_134 rfl rfl ?_
    refine rr_iast dX10_lend_135 rfl hh (fun h7 hh => ?_)
    refine rr_aload_n dX10_lend_136 rfl rfl ?_
    refine rr_getR cf_X10 (j := 0) (by decide) dX10_lend_137 rfl q_754 hh (fun r8 hh => ?_)
    refine rr_iload dX10_lend_140 rfl rfl ?_
    refine rr_iconst dX10_lend_142 rfl ⟨by decide, by decide⟩ ?_
    obtain ⟨hz9, hh⟩ := hh
    refine rr_iadd dX10_lend_143 rfl hz9 ?_
    refine rr_aload_n dX10_lend_144 rfl rfl ?_
    refine rr_getI cf_X10 (j := 15) (by decide) dX10_lend_145 rfl q_769 hh (fun n10 hh => ?_)
    refine rr_iast dX10_lend_148 rfl hh (fun h11 hh => ?_)
    refine rr_iconst dX10_lend_149 rfl ⟨by decide, by decide⟩ ?_
    refine rr_istore (ls' := [some (vR (some x0)), some (vI x1), some (vI x2), some (vI x3), some (vI x4), some (vI x5), some (vI 0)]) dX10_lend_150 rfl (by decide) (fun _ z => by cases z) rfl ?_
    exact hh
  · have hh := hh.2 hc76
    refine rr_aload_n dX10_lend_79 rfl rfl ?_
    refine rr_getR cf_X10 (j := 0) (by decide) dX10_lend_80 rfl q_754 hh (fun r13 hh => ?_)
    refine rr_iload dX10_lend_83 rfl rfl ?_
    refine rr_iload dX10_lend_85 rfl rfl ?_
    obtain ⟨hz14, hh⟩ := hh
    refine rr_iadd dX10_lend_87 rfl hz14 ?_
    refine rr_aload_n dX10_lend_88 rfl rfl ?_
    refine rr_getR cf_X10 (j := 0) (by decide) dX10_lend_89 rfl q_754 hh (fun r15 hh => ?_)
    refine rr_iload_n dX10_lend_92 rfl rfl ?_
    refine rr_callS (bc' := bc) (bs' := bs) (av := [vI x1]) (st := [vR r15, vI (x5 + x6), vR r13]) mf_X10_loanAt dX10_lend_93 rfl q_918 q_919 rfl (cs_le _ (Nat.le_of_ble_eq_true rfl)) (Nat.le_refl _) (Nat.le_refl _) hh (rr_kI fun n17 h16 hh => ?_)
    refine rr_iload dX10_lend_96 rfl rfl ?_
    obtain ⟨hz18, hh⟩ := hh
    refine rr_iadd dX10_lend_98 rfl hz18 ?_
    refine rr_iald dX10_lend_99 rfl hh (fun n19 hh => ?_)
    refine rr_iast dX10_lend_100 rfl hh (fun h20 hh => ?_)
    obtain ⟨hz21, hh⟩ := hh
    refine rr_iinc (ls' := [some (vR (some x0)), some (vI x1), some (vI x2), some (vI x3), some (vI x4), some (vI x5), some (vI (x6 + 1))]) dX10_lend_101 rfl rfl (by decide) (fun _ z => by cases z) hz21 rfl ?_
    refine rr_goto (pc' := 72) dX10_lend_104 (by decide) ?_
    exact hh
set_option maxRecDepth 100000 in
theorem B_X10_lend_152 {d : Nat} {h : AbH} {K : Option AbV → AbH → Prop} {x0 : Nat} {x1 : Int} {x2 : Int} {x3 : Int} {x4 : Int} {x5 : Int} {x6 : Int} {bc bs : Nat} (hh : wpGI h (some x0) 9 15 (fun n1 => ((n1 ≤ x6 → wpGR h (some x0) 9 0 (fun r2 => wpLI h r2 1 (fun n3 => K (some (vI n3)) h))) ∧ (¬ (n1 ≤ x6) → wpGR h (some x0) 9 0 (fun r4 => in32 (x5 + 12) ∧ in32 ((x5 + 12) + x6) ∧ wpGR h (some x0) 9 14 (fun r7 => wpLI h r7 x6 (fun n8 => wpSI h r4 ((x5 + 12) + x6) n8 (fun h9 => in32 (x6 + 1) ∧ Vx (d + 1) m_X10_lend bc bs 152 [some (vR (some x0)), some (vI x1), some (vI x2), some (vI x3), some (vI x4), some (vI x5), some (vI (x6 + 1))] [] h9 K)))))))) : Vx (d + 1) m_X10_lend bc bs 152 [some (vR (some x0)), some (vI x1), some (vI x2), some (vI x3), some (vI x4), some (vI x5), some (vI x6)] [] h K := by
  refine rr_iload dX10_lend_152 rfl rfl ?_
  refine rr_aload_n dX10_lend_154 rfl rfl ?_
  refine rr_getI cf_X10 (j := 15) (by decide) dX10_lend_155 rfl q_769 hh (fun n1 hh => ?_)
  refine rr_icmp_ge (tgt := 187) dX10_lend_158 rfl (by decide) (fun hc158 => ?_) (fun hc158 => ?_)
  · have hh := hh.1 hc158
    refine rr_aload_n dX10_lend_187 rfl rfl ?_
    refine rr_getR cf_X10 (j := 0) (by decide) dX10_lend_188 rfl q_754 hh (fun r2 hh => ?_)
    refine rr_iconst dX10_lend_191 rfl ⟨by decide, by decide⟩ ?_
    refine rr_iald dX10_lend_192 rfl hh (fun n3 hh => ?_)
    exact rr_iret dX10_lend_193 rfl hh
  · have hh := hh.2 hc158
    refine rr_aload_n dX10_lend_161 rfl rfl ?_
    refine rr_getR cf_X10 (j := 0) (by decide) dX10_lend_162 rfl q_754 hh (fun r4 hh => ?_)
    refine rr_iload dX10_lend_165 rfl rfl ?_
    refine rr_bipush dX10_lend_167 rfl ⟨by decide, by decide⟩ rfl ?_
    obtain ⟨hz5, hh⟩ := hh
    refine rr_iadd dX10_lend_169 rfl hz5 ?_
    refine rr_iload dX10_lend_170 rfl rfl ?_
    obtain ⟨hz6, hh⟩ := hh
    refine rr_iadd dX10_lend_172 rfl hz6 ?_
    refine rr_aload_n dX10_lend_173 rfl rfl ?_
    refine rr_getR cf_X10 (j := 14) (by decide) dX10_lend_174 rfl q_768 hh (fun r7 hh => ?_)
    refine rr_iload dX10_lend_177 rfl rfl ?_
    refine rr_iald dX10_lend_179 rfl hh (fun n8 hh => ?_)
    refine rr_iast dX10_lend_180 rfl hh (fun h9 hh => ?_)
    obtain ⟨hz10, hh⟩ := hh
    refine rr_iinc (ls' := [some (vR (some x0)), some (vI x1), some (vI x2), some (vI x3), some (vI x4), some (vI x5), some (vI (x6 + 1))]) dX10_lend_181 rfl rfl (by decide) (fun _ z => by cases z) hz10 rfl ?_
    refine rr_goto (pc' := 152) dX10_lend_184 (by decide) ?_
    exact hh
theorem dX10_drop_0 : decode cX10_drop 0 = .ok (.aload_n 0, 1) := by decide +kernel
theorem dX10_drop_1 : decode cX10_drop 1 = .ok (.iload_n 1, 1) := by decide +kernel
theorem dX10_drop_2 : decode cX10_drop 2 = .ok (.invokevirtual 241, 3) := by decide +kernel
theorem dX10_drop_5 : decode cX10_drop 5 = .ok (.ifCond .ne 6, 3) := by decide +kernel
theorem dX10_drop_8 : decode cX10_drop 8 = .ok (.bipush (-2), 2) := by decide +kernel
theorem dX10_drop_10 : decode cX10_drop 10 = .ok (.ireturn, 1) := by decide +kernel
theorem dX10_drop_11 : decode cX10_drop 11 = .ok (.aload_n 0, 1) := by decide +kernel
theorem dX10_drop_12 : decode cX10_drop 12 = .ok (.invokevirtual 226, 3) := by decide +kernel
theorem dX10_drop_15 : decode cX10_drop 15 = .ok (.aload_n 0, 1) := by decide +kernel
theorem dX10_drop_16 : decode cX10_drop 16 = .ok (.getfield 7, 3) := by decide +kernel
theorem dX10_drop_19 : decode cX10_drop 19 = .ok (.iconst 1, 1) := by decide +kernel
theorem dX10_drop_20 : decode cX10_drop 20 = .ok (.dup2, 1) := by decide +kernel
theorem dX10_drop_21 : decode cX10_drop 21 = .ok (.iaload, 1) := by decide +kernel
theorem dX10_drop_22 : decode cX10_drop 22 = .ok (.iconst 1, 1) := by decide +kernel
theorem dX10_drop_23 : decode cX10_drop 23 = .ok (.isub, 1) := by decide +kernel
theorem dX10_drop_24 : decode cX10_drop 24 = .ok (.iastore, 1) := by decide +kernel
theorem dX10_drop_25 : decode cX10_drop 25 = .ok (.iload_n 1, 1) := by decide +kernel
theorem dX10_drop_26 : decode cX10_drop 26 = .ok (.invokestatic 128, 3) := by decide +kernel
theorem dX10_drop_29 : decode cX10_drop 29 = .ok (.istore_n 2, 1) := by decide +kernel
theorem dX10_drop_30 : decode cX10_drop 30 = .ok (.iload_n 2, 1) := by decide +kernel
theorem dX10_drop_31 : decode cX10_drop 31 = .ok (.aload_n 0, 1) := by decide +kernel
theorem dX10_drop_32 : decode cX10_drop 32 = .ok (.getfield 7, 3) := by decide +kernel
theorem dX10_drop_35 : decode cX10_drop 35 = .ok (.iconst 1, 1) := by decide +kernel
theorem dX10_drop_36 : decode cX10_drop 36 = .ok (.iaload, 1) := by decide +kernel
theorem dX10_drop_37 : decode cX10_drop 37 = .ok (.invokestatic 128, 3) := by decide +kernel
theorem dX10_drop_40 : decode cX10_drop 40 = .ok (.if_icmp .ge 24, 3) := by decide +kernel
theorem dX10_drop_43 : decode cX10_drop 43 = .ok (.aload_n 0, 1) := by decide +kernel
theorem dX10_drop_44 : decode cX10_drop 44 = .ok (.getfield 7, 3) := by decide +kernel
theorem dX10_drop_47 : decode cX10_drop 47 = .ok (.iload_n 2, 1) := by decide +kernel
theorem dX10_drop_48 : decode cX10_drop 48 = .ok (.aload_n 0, 1) := by decide +kernel
theorem dX10_drop_49 : decode cX10_drop 49 = .ok (.getfield 7, 3) := by decide +kernel
theorem dX10_drop_52 : decode cX10_drop 52 = .ok (.iload_n 2, 1) := by decide +kernel
theorem dX10_drop_53 : decode cX10_drop 53 = .ok (.bipush 22, 2) := by decide +kernel
theorem dX10_drop_55 : decode cX10_drop 55 = .ok (.iadd, 1) := by decide +kernel
theorem dX10_drop_56 : decode cX10_drop 56 = .ok (.iaload, 1) := by decide +kernel
theorem dX10_drop_57 : decode cX10_drop 57 = .ok (.iastore, 1) := by decide +kernel
theorem dX10_drop_58 : decode cX10_drop 58 = .ok (.iinc 2 1, 3) := by decide +kernel
theorem dX10_drop_61 : decode cX10_drop 61 = .ok (.goto (-31), 3) := by decide +kernel
theorem dX10_drop_64 : decode cX10_drop 64 = .ok (.aload_n 0, 1) := by decide +kernel
theorem dX10_drop_65 : decode cX10_drop 65 = .ok (.getfield 7, 3) := by decide +kernel
theorem dX10_drop_68 : decode cX10_drop 68 = .ok (.iconst 1, 1) := by decide +kernel
theorem dX10_drop_69 : decode cX10_drop 69 = .ok (.iaload, 1) := by decide +kernel
theorem dX10_drop_70 : decode cX10_drop 70 = .ok (.ireturn, 1) := by decide +kernel
set_option maxRecDepth 100000 in
theorem B_X10_drop_0 {d : Nat} {h : AbH} {K : Option AbV → AbH → Prop} {x0 : Nat} {x1 : Int} (hh : wpCV h (some x0) 9 (fun b11 => Vm d m_X10_isLoan [vR (some b11), vI x1] h (kI (fun n2 h1 => ((n2 ≠ 0 → wpCV h1 (some x0) 9 (fun b10 => Vm d m_X10_keepPast [vR (some b10)] h1 (kV (fun h3 => wpGR h3 (some x0) 9 0 (fun r4 => wpLI h3 r4 1 (fun n5 => in32 (n5 - 1) ∧ wpSI h3 r4 1 (n5 - 1) (fun h7 => Vm d m_X10_loanAt [vI x1] h7 (kI (fun n9 h8 => Vx (d + 1) m_X10_drop 0 0 30 [some (vR (some x0)), some (vI x1), some (vI n9)] [] h8 K))))))))) ∧ (¬ (n2 ≠ 0) → K (some (vI (-2))) h1)))))) : Vx (d + 1) m_X10_drop 0 0 0 [some (vR (some x0)), some (vI x1)] [] h K := by
  refine Vx.pad 1 [some (vR (some x0)), some (vI x1), none] rfl ?_
  refine rr_aload_n dX10_drop_0 rfl rfl ?_
  refine rr_iload_n dX10_drop_1 rfl rfl ?_
  refine rr_callW (bc' := 0) (bs' := 0) (q := (some x0)) (av := [vI x1]) (st := []) mf_X10_isLoan dX10_drop_2 rfl q_982 q_984 qs_46 ⟨_, _, rfl⟩ rfl (by decide) (Nat.le_refl _) (Nat.le_refl _) hh (rr_kI fun n2 h1 hh => ?_)
  refine rr_if_ne (tgt := 11) dX10_drop_5 rfl (by decide) (fun hc5 => ?_) (fun hc5 => ?_)
  · have hh := hh.1 hc5
    refine rr_aload_n dX10_drop_11 rfl rfl ?_
    refine rr_callW (bc' := 0) (bs' := 0) (q := (some x0)) (av := []) (st := []) mf_X10_keepPast dX10_drop_12 rfl q_944 q_946 qs_42 ⟨_, _, rfl⟩ rfl (by decide) (Nat.le_refl _) (Nat.le_refl _) hh (rr_kV fun h3 hh => ?_)
    refine rr_aload_n dX10_drop_15 rfl rfl ?_
    refine rr_getR cf_X10 (j := 0) (by decide) dX10_drop_16 rfl q_754 hh (fun r4 hh => ?_)
    refine rr_iconst dX10_drop_19 rfl ⟨by decide, by decide⟩ ?_
    refine rr_dup2 dX10_drop_20 rfl rfl (ab_catR _) ?_
    refine rr_iald dX10_drop_21 rfl hh (fun n5 hh => ?_)
    refine rr_iconst dX10_drop_22 rfl ⟨by decide, by decide⟩ ?_
    obtain ⟨hz6, hh⟩ := hh
    refine rr_isub dX10_drop_23 rfl hz6 ?_
    refine rr_iast dX10_drop_24 rfl hh (fun h7 hh => ?_)
    refine rr_iload_n dX10_drop_25 rfl rfl ?_
    refine rr_callS (bc' := 0) (bs' := 0) (av := [vI x1]) (st := []) mf_X10_loanAt dX10_drop_26 rfl q_918 q_919 rfl (by decide) (Nat.le_refl _) (Nat.le_refl _) hh (rr_kI fun n9 h8 hh => ?_)
    refine rr_istore_n (ls' := [some (vR (some x0)), some (vI x1), some (vI n9)]) dX10_drop_29 rfl (by decide) (fun _ z => by cases z) rfl ?_
    exact hh
  · have hh := hh.2 hc5
    refine rr_bipush dX10_drop_8 rfl ⟨by decide, by decide⟩ rfl ?_
    exact rr_iret dX10_drop_10 rfl hh
set_option maxRecDepth 100000 in
theorem B_X10_drop_30 {d : Nat} {h : AbH} {K : Option AbV → AbH → Prop} {x0 : Nat} {x1 : Int} {x2 : Int} {bc bs : Nat} (hh : wpGR h (some x0) 9 0 (fun r1 => wpLI h r1 1 (fun n2 => Vm d m_X10_loanAt [vI n2] h (kI (fun n4 h3 => ((n4 ≤ x2 → wpGR h3 (some x0) 9 0 (fun r5 => wpLI h3 r5 1 (fun n6 => K (some (vI n6)) h3))) ∧ (¬ (n4 ≤ x2) → wpGR h3 (some x0) 9 0 (fun r7 => wpGR h3 (some x0) 9 0 (fun r8 => in32 (x2 + 22) ∧ wpLI h3 r8 (x2 + 22) (fun n10 => wpSI h3 r7 x2 n10 (fun h11 => in32 (x2 + 1) ∧ Vx (d + 1) m_X10_drop bc bs 30 [some (vR (some x0)), some (vI x1), some (vI (x2 + 1))] [] h11 K))))))))))) : Vx (d + 1) m_X10_drop bc bs 30 [some (vR (some x0)), some (vI x1), some (vI x2)] [] h K := by
  refine rr_iload_n dX10_drop_30 rfl rfl ?_
  refine rr_aload_n dX10_drop_31 rfl rfl ?_
  refine rr_getR cf_X10 (j := 0) (by decide) dX10_drop_32 rfl q_754 hh (fun r1 hh => ?_)
  refine rr_iconst dX10_drop_35 rfl ⟨by decide, by decide⟩ ?_
  refine rr_iald dX10_drop_36 rfl hh (fun n2 hh => ?_)
  refine rr_callS (bc' := bc) (bs' := bs) (av := [vI n2]) (st := [vI x2]) mf_X10_loanAt dX10_drop_37 rfl q_918 q_919 rfl (show 1 ≤ 8 by decide) (Nat.le_refl _) (Nat.le_refl _) hh (rr_kI fun n4 h3 hh => ?_)
  refine rr_icmp_ge (tgt := 64) dX10_drop_40 rfl (by decide) (fun hc40 => ?_) (fun hc40 => ?_)
  · have hh := hh.1 hc40
    refine rr_aload_n dX10_drop_64 rfl rfl ?_
    refine rr_getR cf_X10 (j := 0) (by decide) dX10_drop_65 rfl q_754 hh (fun r5 hh => ?_)
    refine rr_iconst dX10_drop_68 rfl ⟨by decide, by decide⟩ ?_
    refine rr_iald dX10_drop_69 rfl hh (fun n6 hh => ?_)
    exact rr_iret dX10_drop_70 rfl hh
  · have hh := hh.2 hc40
    refine rr_aload_n dX10_drop_43 rfl rfl ?_
    refine rr_getR cf_X10 (j := 0) (by decide) dX10_drop_44 rfl q_754 hh (fun r7 hh => ?_)
    refine rr_iload_n dX10_drop_47 rfl rfl ?_
    refine rr_aload_n dX10_drop_48 rfl rfl ?_
    refine rr_getR cf_X10 (j := 0) (by decide) dX10_drop_49 rfl q_754 hh (fun r8 hh => ?_)
    refine rr_iload_n dX10_drop_52 rfl rfl ?_
    refine rr_bipush dX10_drop_53 rfl ⟨by decide, by decide⟩ rfl ?_
    obtain ⟨hz9, hh⟩ := hh
    refine rr_iadd dX10_drop_55 rfl hz9 ?_
    refine rr_iald dX10_drop_56 rfl hh (fun n10 hh => ?_)
    refine rr_iast dX10_drop_57 rfl hh (fun h11 hh => ?_)
    obtain ⟨hz12, hh⟩ := hh
    refine rr_iinc (ls' := [some (vR (some x0)), some (vI x1), some (vI (x2 + 1))]) dX10_drop_58 rfl rfl (by decide) (fun _ z => by cases z) hz12 rfl ?_
    refine rr_goto (pc' := 30) dX10_drop_61 (by decide) ?_
    exact hh
theorem dX10_undo_0 : decode cX10_undo 0 = .ok (.aload_n 0, 1) := by decide +kernel
theorem dX10_undo_1 : decode cX10_undo 1 = .ok (.getfield 166, 3) := by decide +kernel
theorem dX10_undo_4 : decode cX10_undo 4 = .ok (.ifCond .ne 6, 3) := by decide +kernel
theorem dX10_undo_7 : decode cX10_undo 7 = .ok (.bipush (-4), 2) := by decide +kernel
theorem dX10_undo_9 : decode cX10_undo 9 = .ok (.ireturn, 1) := by decide +kernel
theorem dX10_undo_10 : decode cX10_undo 10 = .ok (.aload_n 0, 1) := by decide +kernel
theorem dX10_undo_11 : decode cX10_undo 11 = .ok (.dup, 1) := by decide +kernel
theorem dX10_undo_12 : decode cX10_undo 12 = .ok (.getfield 166, 3) := by decide +kernel
theorem dX10_undo_15 : decode cX10_undo 15 = .ok (.iconst 1, 1) := by decide +kernel
theorem dX10_undo_16 : decode cX10_undo 16 = .ok (.isub, 1) := by decide +kernel
theorem dX10_undo_17 : decode cX10_undo 17 = .ok (.putfield 166, 3) := by decide +kernel
theorem dX10_undo_20 : decode cX10_undo 20 = .ok (.aload_n 0, 1) := by decide +kernel
theorem dX10_undo_21 : decode cX10_undo 21 = .ok (.sipush 394, 3) := by decide +kernel
theorem dX10_undo_24 : decode cX10_undo 24 = .ok (.sipush 394, 3) := by decide +kernel
theorem dX10_undo_27 : decode cX10_undo 27 = .ok (.aload_n 0, 1) := by decide +kernel
theorem dX10_undo_28 : decode cX10_undo 28 = .ok (.getfield 166, 3) := by decide +kernel
theorem dX10_undo_31 : decode cX10_undo 31 = .ok (.imul, 1) := by decide +kernel
theorem dX10_undo_32 : decode cX10_undo 32 = .ok (.iadd, 1) := by decide +kernel
theorem dX10_undo_33 : decode cX10_undo 33 = .ok (.iconst 0, 1) := by decide +kernel
theorem dX10_undo_34 : decode cX10_undo 34 = .ok (.invokevirtual 213, 3) := by decide +kernel
theorem dX10_undo_37 : decode cX10_undo 37 = .ok (.aload_n 0, 1) := by decide +kernel
theorem dX10_undo_38 : decode cX10_undo 38 = .ok (.getfield 166, 3) := by decide +kernel
theorem dX10_undo_41 : decode cX10_undo 41 = .ok (.ireturn, 1) := by decide +kernel
set_option maxRecDepth 100000 in
theorem B_X10_undo_0 {d : Nat} {h : AbH} {K : Option AbV → AbH → Prop} {x0 : Nat} (hh : wpGI h (some x0) 9 1 (fun n1 => ((n1 ≠ 0 → wpGI h (some x0) 9 1 (fun n2 => in32 (n2 - 1) ∧ wpP h (some x0) 9 1 (vI (n2 - 1)) (fun h4 => wpGI h4 (some x0) 9 1 (fun n5 => in32 (394 * n5) ∧ in32 (394 + (394 * n5)) ∧ wpCV h4 (some x0) 9 (fun b10 => Vm d m_X10_copyRow [vR (some b10), vI (394 + (394 * n5)), vI 0] h4 (kV (fun h8 => wpGI h8 (some x0) 9 1 (fun n9 => K (some (vI n9)) h8)))))))) ∧ (¬ (n1 ≠ 0) → K (some (vI (-4))) h)))) : Vx (d + 1) m_X10_undo 0 0 0 [some (vR (some x0))] [] h K := by
  refine rr_aload_n dX10_undo_0 rfl rfl ?_
  refine rr_getI cf_X10 (j := 1) (by decide) dX10_undo_1 rfl q_755 hh (fun n1 hh => ?_)
  refine rr_if_ne (tgt := 10) dX10_undo_4 rfl (by decide) (fun hc4 => ?_) (fun hc4 => ?_)
  · have hh := hh.1 hc4
    refine rr_aload_n dX10_undo_10 rfl rfl ?_
    refine rr_dup dX10_undo_11 rfl rfl ?_
    refine rr_getI cf_X10 (j := 1) (by decide) dX10_undo_12 rfl q_755 hh (fun n2 hh => ?_)
    refine rr_iconst dX10_undo_15 rfl ⟨by decide, by decide⟩ ?_
    obtain ⟨hz3, hh⟩ := hh
    refine rr_isub dX10_undo_16 rfl hz3 ?_
    refine rr_put cf_X10 (j := 1) (by decide) dX10_undo_17 rfl q_755 rfl (fty := .int) (by decide +kernel) rfl rfl hh (fun h4 hh => ?_)
    refine rr_aload_n dX10_undo_20 rfl rfl ?_
    refine rr_sipush dX10_undo_21 rfl ⟨by decide, by decide⟩ rfl ?_
    refine rr_sipush dX10_undo_24 rfl ⟨by decide, by decide⟩ rfl ?_
    refine rr_aload_n dX10_undo_27 rfl rfl ?_
    refine rr_getI cf_X10 (j := 1) (by decide) dX10_undo_28 rfl q_755 hh (fun n5 hh => ?_)
    obtain ⟨hz6, hh⟩ := hh
    refine rr_imul dX10_undo_31 rfl hz6 ?_
    obtain ⟨hz7, hh⟩ := hh
    refine rr_iadd dX10_undo_32 rfl hz7 ?_
    refine rr_iconst dX10_undo_33 rfl ⟨by decide, by decide⟩ ?_
    refine rr_callW (bc' := 0) (bs' := 0) (q := (some x0)) (av := [vI (394 + (394 * n5)), vI 0]) (st := []) mf_X10_copyRow dX10_undo_34 rfl q_948 q_950 qs_43 ⟨_, _, rfl⟩ rfl (by decide) (Nat.le_refl _) (Nat.le_refl _) hh (rr_kV fun h8 hh => ?_)
    refine rr_aload_n dX10_undo_37 rfl rfl ?_
    refine rr_getI cf_X10 (j := 1) (by decide) dX10_undo_38 rfl q_755 hh (fun n9 hh => ?_)
    exact rr_iret dX10_undo_41 rfl hh
  · have hh := hh.2 hc4
    refine rr_bipush dX10_undo_7 rfl ⟨by decide, by decide⟩ rfl ?_
    exact rr_iret dX10_undo_9 rfl hh
theorem dX10_keep_0 : decode cX10_keep 0 = .ok (.iload_n 1, 1) := by decide +kernel
theorem dX10_keep_1 : decode cX10_keep 1 = .ok (.i2l, 1) := by decide +kernel
theorem dX10_keep_2 : decode cX10_keep 2 = .ok (.lconst 0, 1) := by decide +kernel
theorem dX10_keep_3 : decode cX10_keep 3 = .ok (.lconst 1, 1) := by decide +kernel
theorem dX10_keep_4 : decode cX10_keep 4 = .ok (.invokestatic 52, 3) := by decide +kernel
theorem dX10_keep_7 : decode cX10_keep 7 = .ok (.ifCond .ne 6, 3) := by decide +kernel
theorem dX10_keep_10 : decode cX10_keep 10 = .ok (.bipush (-3), 2) := by decide +kernel
theorem dX10_keep_12 : decode cX10_keep 12 = .ok (.ireturn, 1) := by decide +kernel
theorem dX10_keep_13 : decode cX10_keep 13 = .ok (.aload_n 0, 1) := by decide +kernel
theorem dX10_keep_14 : decode cX10_keep 14 = .ok (.iconst 0, 1) := by decide +kernel
theorem dX10_keep_15 : decode cX10_keep 15 = .ok (.sipush 3546, 3) := by decide +kernel
theorem dX10_keep_18 : decode cX10_keep 18 = .ok (.sipush 394, 3) := by decide +kernel
theorem dX10_keep_21 : decode cX10_keep 21 = .ok (.iload_n 1, 1) := by decide +kernel
theorem dX10_keep_22 : decode cX10_keep 22 = .ok (.imul, 1) := by decide +kernel
theorem dX10_keep_23 : decode cX10_keep 23 = .ok (.iadd, 1) := by decide +kernel
theorem dX10_keep_24 : decode cX10_keep 24 = .ok (.invokevirtual 213, 3) := by decide +kernel
theorem dX10_keep_27 : decode cX10_keep 27 = .ok (.aload_n 0, 1) := by decide +kernel
theorem dX10_keep_28 : decode cX10_keep 28 = .ok (.getfield 13, 3) := by decide +kernel
theorem dX10_keep_31 : decode cX10_keep 31 = .ok (.iload_n 1, 1) := by decide +kernel
theorem dX10_keep_32 : decode cX10_keep 32 = .ok (.iconst 1, 1) := by decide +kernel
theorem dX10_keep_33 : decode cX10_keep 33 = .ok (.bastore, 1) := by decide +kernel
theorem dX10_keep_34 : decode cX10_keep 34 = .ok (.aload_n 0, 1) := by decide +kernel
theorem dX10_keep_35 : decode cX10_keep 35 = .ok (.getfield 7, 3) := by decide +kernel
theorem dX10_keep_38 : decode cX10_keep 38 = .ok (.iconst 0, 1) := by decide +kernel
theorem dX10_keep_39 : decode cX10_keep 39 = .ok (.iaload, 1) := by decide +kernel
theorem dX10_keep_40 : decode cX10_keep 40 = .ok (.ireturn, 1) := by decide +kernel
set_option maxRecDepth 100000 in
theorem B_X10_keep_0 {d : Nat} {h : AbH} {K : Option AbV → AbH → Prop} {x0 : Nat} {x1 : Int} (hh : Vm d m_X10_in [vL x1, vL 0, vL 1] h (kI (fun n2 h1 => ((n2 ≠ 0 → in32 (394 * x1) ∧ in32 (3546 + (394 * x1)) ∧ wpCV h1 (some x0) 9 (fun b10 => Vm d m_X10_copyRow [vR (some b10), vI 0, vI (3546 + (394 * x1))] h1 (kV (fun h5 => wpGR h5 (some x0) 9 2 (fun r6 => wpSZ h5 r6 x1 1 (fun h7 => wpGR h7 (some x0) 9 0 (fun r8 => wpLI h7 r8 0 (fun n9 => K (some (vI n9)) h7)))))))) ∧ (¬ (n2 ≠ 0) → K (some (vI (-3))) h1))))) : Vx (d + 1) m_X10_keep 0 0 0 [some (vR (some x0)), some (vI x1)] [] h K := by
  refine rr_iload_n dX10_keep_0 rfl rfl ?_
  refine rr_i2l dX10_keep_1 rfl ?_
  refine rr_lconst (n := 0) dX10_keep_2 rfl ⟨by decide, by decide⟩ rfl ?_
  refine rr_lconst (n := 1) dX10_keep_3 rfl ⟨by decide, by decide⟩ rfl ?_
  refine rr_callS (bc' := 0) (bs' := 0) (av := [vL x1, vL 0, vL 1]) (st := []) mf_X10_in dX10_keep_4 rfl q_829 q_830 rfl (by decide) (Nat.le_refl _) (Nat.le_refl _) hh (rr_kI fun n2 h1 hh => ?_)
  refine rr_if_ne (tgt := 13) dX10_keep_7 rfl (by decide) (fun hc7 => ?_) (fun hc7 => ?_)
  · have hh := hh.1 hc7
    refine rr_aload_n dX10_keep_13 rfl rfl ?_
    refine rr_iconst dX10_keep_14 rfl ⟨by decide, by decide⟩ ?_
    refine rr_sipush dX10_keep_15 rfl ⟨by decide, by decide⟩ rfl ?_
    refine rr_sipush dX10_keep_18 rfl ⟨by decide, by decide⟩ rfl ?_
    refine rr_iload_n dX10_keep_21 rfl rfl ?_
    obtain ⟨hz3, hh⟩ := hh
    refine rr_imul dX10_keep_22 rfl hz3 ?_
    obtain ⟨hz4, hh⟩ := hh
    refine rr_iadd dX10_keep_23 rfl hz4 ?_
    refine rr_callW (bc' := 0) (bs' := 0) (q := (some x0)) (av := [vI 0, vI (3546 + (394 * x1))]) (st := []) mf_X10_copyRow dX10_keep_24 rfl q_948 q_950 qs_43 ⟨_, _, rfl⟩ rfl (by decide) (Nat.le_refl _) (Nat.le_refl _) hh (rr_kV fun h5 hh => ?_)
    refine rr_aload_n dX10_keep_27 rfl rfl ?_
    refine rr_getR cf_X10 (j := 2) (by decide) dX10_keep_28 rfl q_756 hh (fun r6 hh => ?_)
    refine rr_iload_n dX10_keep_31 rfl rfl ?_
    refine rr_iconst dX10_keep_32 rfl ⟨by decide, by decide⟩ ?_
    refine rr_zast dX10_keep_33 rfl hh (fun h7 hh => ?_)
    refine rr_aload_n dX10_keep_34 rfl rfl ?_
    refine rr_getR cf_X10 (j := 0) (by decide) dX10_keep_35 rfl q_754 hh (fun r8 hh => ?_)
    refine rr_iconst dX10_keep_38 rfl ⟨by decide, by decide⟩ ?_
    refine rr_iald dX10_keep_39 rfl hh (fun n9 hh => ?_)
    exact rr_iret dX10_keep_40 rfl hh
  · have hh := hh.2 hc7
    refine rr_bipush dX10_keep_10 rfl ⟨by decide, by decide⟩ rfl ?_
    exact rr_iret dX10_keep_12 rfl hh
theorem dX10_back_0 : decode cX10_back 0 = .ok (.iload_n 1, 1) := by decide +kernel
theorem dX10_back_1 : decode cX10_back 1 = .ok (.i2l, 1) := by decide +kernel
theorem dX10_back_2 : decode cX10_back 2 = .ok (.lconst 0, 1) := by decide +kernel
theorem dX10_back_3 : decode cX10_back 3 = .ok (.lconst 1, 1) := by decide +kernel
theorem dX10_back_4 : decode cX10_back 4 = .ok (.invokestatic 52, 3) := by decide +kernel
theorem dX10_back_7 : decode cX10_back 7 = .ok (.ifCond .ne 6, 3) := by decide +kernel
theorem dX10_back_10 : decode cX10_back 10 = .ok (.bipush (-3), 2) := by decide +kernel
theorem dX10_back_12 : decode cX10_back 12 = .ok (.ireturn, 1) := by decide +kernel
theorem dX10_back_13 : decode cX10_back 13 = .ok (.aload_n 0, 1) := by decide +kernel
theorem dX10_back_14 : decode cX10_back 14 = .ok (.getfield 13, 3) := by decide +kernel
theorem dX10_back_17 : decode cX10_back 17 = .ok (.iload_n 1, 1) := by decide +kernel
theorem dX10_back_18 : decode cX10_back 18 = .ok (.baload, 1) := by decide +kernel
theorem dX10_back_19 : decode cX10_back 19 = .ok (.ifCond .ne 6, 3) := by decide +kernel
theorem dX10_back_22 : decode cX10_back 22 = .ok (.bipush (-4), 2) := by decide +kernel
theorem dX10_back_24 : decode cX10_back 24 = .ok (.ireturn, 1) := by decide +kernel
theorem dX10_back_25 : decode cX10_back 25 = .ok (.aload_n 0, 1) := by decide +kernel
theorem dX10_back_26 : decode cX10_back 26 = .ok (.sipush 3546, 3) := by decide +kernel
theorem dX10_back_29 : decode cX10_back 29 = .ok (.sipush 394, 3) := by decide +kernel
theorem dX10_back_32 : decode cX10_back 32 = .ok (.iload_n 1, 1) := by decide +kernel
theorem dX10_back_33 : decode cX10_back 33 = .ok (.imul, 1) := by decide +kernel
theorem dX10_back_34 : decode cX10_back 34 = .ok (.iadd, 1) := by decide +kernel
theorem dX10_back_35 : decode cX10_back 35 = .ok (.iconst 0, 1) := by decide +kernel
theorem dX10_back_36 : decode cX10_back 36 = .ok (.invokevirtual 213, 3) := by decide +kernel
theorem dX10_back_39 : decode cX10_back 39 = .ok (.aload_n 0, 1) := by decide +kernel
theorem dX10_back_40 : decode cX10_back 40 = .ok (.iconst 0, 1) := by decide +kernel
theorem dX10_back_41 : decode cX10_back 41 = .ok (.putfield 166, 3) := by decide +kernel
theorem dX10_back_44 : decode cX10_back 44 = .ok (.aload_n 0, 1) := by decide +kernel
theorem dX10_back_45 : decode cX10_back 45 = .ok (.getfield 7, 3) := by decide +kernel
theorem dX10_back_48 : decode cX10_back 48 = .ok (.iconst 0, 1) := by decide +kernel
theorem dX10_back_49 : decode cX10_back 49 = .ok (.iaload, 1) := by decide +kernel
theorem dX10_back_50 : decode cX10_back 50 = .ok (.ireturn, 1) := by decide +kernel
set_option maxRecDepth 100000 in
theorem B_X10_back_0 {d : Nat} {h : AbH} {K : Option AbV → AbH → Prop} {x0 : Nat} {x1 : Int} (hh : Vm d m_X10_in [vL x1, vL 0, vL 1] h (kI (fun n2 h1 => ((n2 ≠ 0 → wpGR h1 (some x0) 9 2 (fun r3 => wpLZ h1 r3 x1 (fun n4 => ((n4 ≠ 0 → in32 (394 * x1) ∧ in32 (3546 + (394 * x1)) ∧ wpCV h1 (some x0) 9 (fun b11 => Vm d m_X10_copyRow [vR (some b11), vI (3546 + (394 * x1)), vI 0] h1 (kV (fun h7 => wpP h7 (some x0) 9 1 (vI 0) (fun h8 => wpGR h8 (some x0) 9 0 (fun r9 => wpLI h8 r9 0 (fun n10 => K (some (vI n10)) h8))))))) ∧ (¬ (n4 ≠ 0) → K (some (vI (-4))) h1))))) ∧ (¬ (n2 ≠ 0) → K (some (vI (-3))) h1))))) : Vx (d + 1) m_X10_back 0 0 0 [some (vR (some x0)), some (vI x1)] [] h K := by
  refine rr_iload_n dX10_back_0 rfl rfl ?_
  refine rr_i2l dX10_back_1 rfl ?_
  refine rr_lconst (n := 0) dX10_back_2 rfl ⟨by decide, by decide⟩ rfl ?_
  refine rr_lconst (n := 1) dX10_back_3 rfl ⟨by decide, by decide⟩ rfl ?_
  refine rr_callS (bc' := 0) (bs' := 0) (av := [vL x1, vL 0, vL 1]) (st := []) mf_X10_in dX10_back_4 rfl q_829 q_830 rfl (by decide) (Nat.le_refl _) (Nat.le_refl _) hh (rr_kI fun n2 h1 hh => ?_)
  refine rr_if_ne (tgt := 13) dX10_back_7 rfl (by decide) (fun hc7 => ?_) (fun hc7 => ?_)
  · have hh := hh.1 hc7
    refine rr_aload_n dX10_back_13 rfl rfl ?_
    refine rr_getR cf_X10 (j := 2) (by decide) dX10_back_14 rfl q_756 hh (fun r3 hh => ?_)
    refine rr_iload_n dX10_back_17 rfl rfl ?_
    refine rr_zald dX10_back_18 rfl hh (fun n4 hh => ?_)
    refine rr_if_ne (tgt := 25) dX10_back_19 rfl (by decide) (fun hc19 => ?_) (fun hc19 => ?_)
    · have hh := hh.1 hc19
      refine rr_aload_n dX10_back_25 rfl rfl ?_
      refine rr_sipush dX10_back_26 rfl ⟨by decide, by decide⟩ rfl ?_
      refine rr_sipush dX10_back_29 rfl ⟨by decide, by decide⟩ rfl ?_
      refine rr_iload_n dX10_back_32 rfl rfl ?_
      obtain ⟨hz5, hh⟩ := hh
      refine rr_imul dX10_back_33 rfl hz5 ?_
      obtain ⟨hz6, hh⟩ := hh
      refine rr_iadd dX10_back_34 rfl hz6 ?_
      refine rr_iconst dX10_back_35 rfl ⟨by decide, by decide⟩ ?_
      refine rr_callW (bc' := 0) (bs' := 0) (q := (some x0)) (av := [vI (3546 + (394 * x1)), vI 0]) (st := []) mf_X10_copyRow dX10_back_36 rfl q_948 q_950 qs_43 ⟨_, _, rfl⟩ rfl (by decide) (Nat.le_refl _) (Nat.le_refl _) hh (rr_kV fun h7 hh => ?_)
      refine rr_aload_n dX10_back_39 rfl rfl ?_
      refine rr_iconst dX10_back_40 rfl ⟨by decide, by decide⟩ ?_
      refine rr_put cf_X10 (j := 1) (by decide) dX10_back_41 rfl q_755 rfl (fty := .int) (by decide +kernel) rfl rfl hh (fun h8 hh => ?_)
      refine rr_aload_n dX10_back_44 rfl rfl ?_
      refine rr_getR cf_X10 (j := 0) (by decide) dX10_back_45 rfl q_754 hh (fun r9 hh => ?_)
      refine rr_iconst dX10_back_48 rfl ⟨by decide, by decide⟩ ?_
      refine rr_iald dX10_back_49 rfl hh (fun n10 hh => ?_)
      exact rr_iret dX10_back_50 rfl hh
    · have hh := hh.2 hc19
      refine rr_bipush dX10_back_22 rfl ⟨by decide, by decide⟩ rfl ?_
      exact rr_iret dX10_back_24 rfl hh
  · have hh := hh.2 hc7
    refine rr_bipush dX10_back_10 rfl ⟨by decide, by decide⟩ rfl ?_
    exact rr_iret dX10_back_12 rfl hh
theorem dX10_told_0 : decode cX10_told 0 = .ok (.aload_n 0, 1) := by decide +kernel
theorem dX10_told_1 : decode cX10_told 1 = .ok (.iload_n 1, 1) := by decide +kernel
theorem dX10_told_2 : decode cX10_told 2 = .ok (.invokevirtual 229, 3) := by decide +kernel
theorem dX10_told_5 : decode cX10_told 5 = .ok (.ifCond .ne 6, 3) := by decide +kernel
theorem dX10_told_8 : decode cX10_told 8 = .ok (.bipush (-2), 2) := by decide +kernel
theorem dX10_told_10 : decode cX10_told 10 = .ok (.ireturn, 1) := by decide +kernel
theorem dX10_told_11 : decode cX10_told 11 = .ok (.iload_n 2, 1) := by decide +kernel
theorem dX10_told_12 : decode cX10_told 12 = .ok (.i2l, 1) := by decide +kernel
theorem dX10_told_13 : decode cX10_told 13 = .ok (.lconst 0, 1) := by decide +kernel
theorem dX10_told_14 : decode cX10_told 14 = .ok (.ldc2_w 244, 3) := by decide +kernel
theorem dX10_told_17 : decode cX10_told 17 = .ok (.invokestatic 52, 3) := by decide +kernel
theorem dX10_told_20 : decode cX10_told 20 = .ok (.ifCond .eq 12, 3) := by decide +kernel
theorem dX10_told_23 : decode cX10_told 23 = .ok (.aload_n 0, 1) := by decide +kernel
theorem dX10_told_24 : decode cX10_told 24 = .ok (.iload_n 1, 1) := by decide +kernel
theorem dX10_told_25 : decode cX10_told 25 = .ok (.iload_n 2, 1) := by decide +kernel
theorem dX10_told_26 : decode cX10_told 26 = .ok (.invokevirtual 156, 3) := by decide +kernel
theorem dX10_told_29 : decode cX10_told 29 = .ok (.goto 5, 3) := by decide +kernel
theorem dX10_told_32 : decode cX10_told 32 = .ok (.bipush (-3), 2) := by decide +kernel
theorem dX10_told_34 : decode cX10_told 34 = .ok (.ireturn, 1) := by decide +kernel
set_option maxRecDepth 100000 in
theorem B_X10_told_0 {d : Nat} {h : AbH} {K : Option AbV → AbH → Prop} {x0 : Nat} {x1 : Int} {x2 : Int} (hh : wpCV h (some x0) 9 (fun b8 => Vm d m_X10_isLaw [vR (some b8), vI x1] h (kI (fun n2 h1 => ((n2 ≠ 0 → Vm d m_X10_in [vL x2, vL 0, vL 5] h1 (kI (fun n4 h3 => ((n4 = 0 → K (some (vI (-3))) h3) ∧ (¬ (n4 = 0) → wpCV h3 (some x0) 9 (fun b7 => Vm d m_X10_lawOf [vR (some b7), vI x1, vI x2] h3 (kI (fun n6 h5 => K (some (vI n6)) h5)))))))) ∧ (¬ (n2 ≠ 0) → K (some (vI (-2))) h1)))))) : Vx (d + 1) m_X10_told 0 0 0 [some (vR (some x0)), some (vI x1), some (vI x2)] [] h K := by
  refine rr_aload_n dX10_told_0 rfl rfl ?_
  refine rr_iload_n dX10_told_1 rfl rfl ?_
  refine rr_callW (bc' := 0) (bs' := 0) (q := (some x0)) (av := [vI x1]) (st := []) mf_X10_isLaw dX10_told_2 rfl q_956 q_958 qs_44 ⟨_, _, rfl⟩ rfl (by decide) (Nat.le_refl _) (Nat.le_refl _) hh (rr_kI fun n2 h1 hh => ?_)
  refine rr_if_ne (tgt := 11) dX10_told_5 rfl (by decide) (fun hc5 => ?_) (fun hc5 => ?_)
  · have hh := hh.1 hc5
    refine rr_iload_n dX10_told_11 rfl rfl ?_
    refine rr_i2l dX10_told_12 rfl ?_
    refine rr_lconst (n := 0) dX10_told_13 rfl ⟨by decide, by decide⟩ rfl ?_
    refine rr_ldc2 (n := 5) dX10_told_14 rfl q_1026 (by decide) ⟨by decide, by decide⟩ ?_
    refine rr_callS (bc' := 0) (bs' := 0) (av := [vL x2, vL 0, vL 5]) (st := []) mf_X10_in dX10_told_17 rfl q_829 q_830 rfl (by decide) (Nat.le_refl _) (Nat.le_refl _) hh (rr_kI fun n4 h3 hh => ?_)
    refine rr_if_eq (tgt := 32) dX10_told_20 rfl (by decide) (fun hc20 => ?_) (fun hc20 => ?_)
    · have hh := hh.1 hc20
      refine rr_bipush dX10_told_32 rfl ⟨by decide, by decide⟩ rfl ?_
      exact rr_iret dX10_told_34 rfl hh
    · have hh := hh.2 hc20
      refine rr_aload_n dX10_told_23 rfl rfl ?_
      refine rr_iload_n dX10_told_24 rfl rfl ?_
      refine rr_iload_n dX10_told_25 rfl rfl ?_
      refine rr_callW (bc' := 0) (bs' := 0) (q := (some x0)) (av := [vI x1, vI x2]) (st := []) mf_X10_lawOf dX10_told_26 rfl q_848 q_850 qs_26 ⟨_, _, rfl⟩ rfl (by decide) (Nat.le_refl _) (Nat.le_refl _) hh (rr_kI fun n6 h5 hh => ?_)
      refine rr_goto (pc' := 34) dX10_told_29 (by decide) ?_
      exact rr_iret dX10_told_34 rfl hh
  · have hh := hh.2 hc5
    refine rr_bipush dX10_told_8 rfl ⟨by decide, by decide⟩ rfl ?_
    exact rr_iret dX10_told_10 rfl hh
theorem dX10_meeting_0 : decode cX10_meeting 0 = .ok (.iload_n 1, 1) := by decide +kernel
theorem dX10_meeting_1 : decode cX10_meeting 1 = .ok (.iload_n 2, 1) := by decide +kernel
theorem dX10_meeting_2 : decode cX10_meeting 2 = .ok (.invokestatic 232, 3) := by decide +kernel
theorem dX10_meeting_5 : decode cX10_meeting 5 = .ok (.ifCond .eq 16, 3) := by decide +kernel
theorem dX10_meeting_8 : decode cX10_meeting 8 = .ok (.aload_n 0, 1) := by decide +kernel
theorem dX10_meeting_9 : decode cX10_meeting 9 = .ok (.getfield 7, 3) := by decide +kernel
theorem dX10_meeting_12 : decode cX10_meeting 12 = .ok (.iload_n 1, 1) := by decide +kernel
theorem dX10_meeting_13 : decode cX10_meeting 13 = .ok (.iload_n 2, 1) := by decide +kernel
theorem dX10_meeting_14 : decode cX10_meeting 14 = .ok (.invokestatic 62, 3) := by decide +kernel
theorem dX10_meeting_17 : decode cX10_meeting 17 = .ok (.iaload, 1) := by decide +kernel
theorem dX10_meeting_18 : decode cX10_meeting 18 = .ok (.ifCond .ne 6, 3) := by decide +kernel
theorem dX10_meeting_21 : decode cX10_meeting 21 = .ok (.bipush (-2), 2) := by decide +kernel
theorem dX10_meeting_23 : decode cX10_meeting 23 = .ok (.ireturn, 1) := by decide +kernel
theorem dX10_meeting_24 : decode cX10_meeting 24 = .ok (.iload_n 3, 1) := by decide +kernel
theorem dX10_meeting_25 : decode cX10_meeting 25 = .ok (.ifCond .ne 18, 3) := by decide +kernel
theorem dX10_meeting_28 : decode cX10_meeting 28 = .ok (.aload_n 0, 1) := by decide +kernel
theorem dX10_meeting_29 : decode cX10_meeting 29 = .ok (.getfield 7, 3) := by decide +kernel
theorem dX10_meeting_32 : decode cX10_meeting 32 = .ok (.iload_n 1, 1) := by decide +kernel
theorem dX10_meeting_33 : decode cX10_meeting 33 = .ok (.iload_n 2, 1) := by decide +kernel
theorem dX10_meeting_34 : decode cX10_meeting 34 = .ok (.invokestatic 62, 3) := by decide +kernel
theorem dX10_meeting_37 : decode cX10_meeting 37 = .ok (.iaload, 1) := by decide +kernel
theorem dX10_meeting_38 : decode cX10_meeting 38 = .ok (.iconst 1, 1) := by decide +kernel
theorem dX10_meeting_39 : decode cX10_meeting 39 = .ok (.isub, 1) := by decide +kernel
theorem dX10_meeting_40 : decode cX10_meeting 40 = .ok (.goto 25, 3) := by decide +kernel
theorem dX10_meeting_43 : decode cX10_meeting 43 = .ok (.iload_n 3, 1) := by decide +kernel
theorem dX10_meeting_44 : decode cX10_meeting 44 = .ok (.iconst 1, 1) := by decide +kernel
theorem dX10_meeting_45 : decode cX10_meeting 45 = .ok (.if_icmp .ne 18, 3) := by decide +kernel
theorem dX10_meeting_48 : decode cX10_meeting 48 = .ok (.aload_n 0, 1) := by decide +kernel
theorem dX10_meeting_49 : decode cX10_meeting 49 = .ok (.getfield 7, 3) := by decide +kernel
theorem dX10_meeting_52 : decode cX10_meeting 52 = .ok (.iload_n 1, 1) := by decide +kernel
theorem dX10_meeting_53 : decode cX10_meeting 53 = .ok (.iload_n 2, 1) := by decide +kernel
theorem dX10_meeting_54 : decode cX10_meeting 54 = .ok (.invokestatic 62, 3) := by decide +kernel
theorem dX10_meeting_57 : decode cX10_meeting 57 = .ok (.iconst 1, 1) := by decide +kernel
theorem dX10_meeting_58 : decode cX10_meeting 58 = .ok (.iadd, 1) := by decide +kernel
theorem dX10_meeting_59 : decode cX10_meeting 59 = .ok (.iaload, 1) := by decide +kernel
theorem dX10_meeting_60 : decode cX10_meeting 60 = .ok (.goto 5, 3) := by decide +kernel
theorem dX10_meeting_63 : decode cX10_meeting 63 = .ok (.bipush (-3), 2) := by decide +kernel
theorem dX10_meeting_65 : decode cX10_meeting 65 = .ok (.ireturn, 1) := by decide +kernel
set_option maxRecDepth 100000 in
theorem B_X10_meeting_0 {d : Nat} {h : AbH} {K : Option AbV → AbH → Prop} {x0 : Nat} {x1 : Int} {x2 : Int} {x3 : Int} (hh : Vm d m_X10_areTongues [vI x1, vI x2] h (kI (fun n2 h1 => ((n2 = 0 → K (some (vI (-2))) h1) ∧ (¬ (n2 = 0) → wpGR h1 (some x0) 9 0 (fun r3 => Vm d m_X10_meetAt [vI x1, vI x2] h1 (kI (fun n5 h4 => wpLI h4 r3 n5 (fun n6 => ((n6 ≠ 0 → ((x3 ≠ 0 → ((x3 ≠ 1 → K (some (vI (-3))) h4) ∧ (¬ (x3 ≠ 1) → wpGR h4 (some x0) 9 0 (fun r7 => Vm d m_X10_meetAt [vI x1, vI x2] h4 (kI (fun n9 h8 => in32 (n9 + 1) ∧ wpLI h8 r7 (n9 + 1) (fun n11 => K (some (vI n11)) h8))))))) ∧ (¬ (x3 ≠ 0) → wpGR h4 (some x0) 9 0 (fun r12 => Vm d m_X10_meetAt [vI x1, vI x2] h4 (kI (fun n14 h13 => wpLI h13 r12 n14 (fun n15 => in32 (n15 - 1) ∧ K (some (vI (n15 - 1))) h13))))))) ∧ (¬ (n6 ≠ 0) → K (some (vI (-2))) h4))))))))))) : Vx (d + 1) m_X10_meeting 0 0 0 [some (vR (some x0)), some (vI x1), some (vI x2), some (vI x3)] [] h K := by
  refine rr_iload_n dX10_meeting_0 rfl rfl ?_
  refine rr_iload_n dX10_meeting_1 rfl rfl ?_
  refine rr_callS (bc' := 0) (bs' := 0) (av := [vI x1, vI x2]) (st := []) mf_X10_areTongues dX10_meeting_2 rfl q_964 q_965 rfl (by decide) (Nat.le_refl _) (Nat.le_refl _) hh (rr_kI fun n2 h1 hh => ?_)
  refine rr_if_eq (tgt := 21) dX10_meeting_5 rfl (by decide) (fun hc5 => ?_) (fun hc5 => ?_)
  · have hh := hh.1 hc5
    refine rr_bipush dX10_meeting_21 rfl ⟨by decide, by decide⟩ rfl ?_
    exact rr_iret dX10_meeting_23 rfl hh
  · have hh := hh.2 hc5
    refine rr_aload_n dX10_meeting_8 rfl rfl ?_
    refine rr_getR cf_X10 (j := 0) (by decide) dX10_meeting_9 rfl q_754 hh (fun r3 hh => ?_)
    refine rr_iload_n dX10_meeting_12 rfl rfl ?_
    refine rr_iload_n dX10_meeting_13 rfl rfl ?_
    refine rr_callS (bc' := 0) (bs' := 0) (av := [vI x1, vI x2]) (st := [vR r3]) mf_X10_meetAt dX10_meeting_14 rfl q_911 q_912 rfl (cs_le _ (Nat.le_of_ble_eq_true rfl)) (Nat.le_refl _) (Nat.le_refl _) hh (rr_kI fun n5 h4 hh => ?_)
    refine rr_iald dX10_meeting_17 rfl hh (fun n6 hh => ?_)
    refine rr_if_ne (tgt := 24) dX10_meeting_18 rfl (by decide) (fun hc18 => ?_) (fun hc18 => ?_)
    · have hh := hh.1 hc18
      refine rr_iload_n dX10_meeting_24 rfl rfl ?_
      refine rr_if_ne (tgt := 43) dX10_meeting_25 rfl (by decide) (fun hc25 => ?_) (fun hc25 => ?_)
      · have hh := hh.1 hc25
        refine rr_iload_n dX10_meeting_43 rfl rfl ?_
        refine rr_iconst dX10_meeting_44 rfl ⟨by decide, by decide⟩ ?_
        refine rr_icmp_ne (tgt := 63) dX10_meeting_45 rfl (by decide) (fun hc45 => ?_) (fun hc45 => ?_)
        · have hh := hh.1 hc45
          refine rr_bipush dX10_meeting_63 rfl ⟨by decide, by decide⟩ rfl ?_
          exact rr_iret dX10_meeting_65 rfl hh
        · have hh := hh.2 hc45
          refine rr_aload_n dX10_meeting_48 rfl rfl ?_
          refine rr_getR cf_X10 (j := 0) (by decide) dX10_meeting_49 rfl q_754 hh (fun r7 hh => ?_)
          refine rr_iload_n dX10_meeting_52 rfl rfl ?_
          refine rr_iload_n dX10_meeting_53 rfl rfl ?_
          refine rr_callS (bc' := 0) (bs' := 0) (av := [vI x1, vI x2]) (st := [vR r7]) mf_X10_meetAt dX10_meeting_54 rfl q_911 q_912 rfl (cs_le _ (Nat.le_of_ble_eq_true rfl)) (Nat.le_refl _) (Nat.le_refl _) hh (rr_kI fun n9 h8 hh => ?_)
          refine rr_iconst dX10_meeting_57 rfl ⟨by decide, by decide⟩ ?_
          obtain ⟨hz10, hh⟩ := hh
          refine rr_iadd dX10_meeting_58 rfl hz10 ?_
          refine rr_iald dX10_meeting_59 rfl hh (fun n11 hh => ?_)
          refine rr_goto (pc' := 65) dX10_meeting_60 (by decide) ?_
          exact rr_iret dX10_meeting_65 rfl hh
      · have hh := hh.2 hc25
        refine rr_aload_n dX10_meeting_28 rfl rfl ?_
        refine rr_getR cf_X10 (j := 0) (by decide) dX10_meeting_29 rfl q_754 hh (fun r12 hh => ?_)
        refine rr_iload_n dX10_meeting_32 rfl rfl ?_
        refine rr_iload_n dX10_meeting_33 rfl rfl ?_
        refine rr_callS (bc' := 0) (bs' := 0) (av := [vI x1, vI x2]) (st := [vR r12]) mf_X10_meetAt dX10_meeting_34 rfl q_911 q_912 rfl (cs_le _ (Nat.le_of_ble_eq_true rfl)) (Nat.le_refl _) (Nat.le_refl _) hh (rr_kI fun n14 h13 hh => ?_)
        refine rr_iald dX10_meeting_37 rfl hh (fun n15 hh => ?_)
        refine rr_iconst dX10_meeting_38 rfl ⟨by decide, by decide⟩ ?_
        obtain ⟨hz16, hh⟩ := hh
        refine rr_isub dX10_meeting_39 rfl hz16 ?_
        refine rr_goto (pc' := 65) dX10_meeting_40 (by decide) ?_
        exact rr_iret dX10_meeting_65 rfl hh
    · have hh := hh.2 hc18
      refine rr_bipush dX10_meeting_21 rfl ⟨by decide, by decide⟩ rfl ?_
      exact rr_iret dX10_meeting_23 rfl hh
theorem dX10_loan_0 : decode cX10_loan 0 = .ok (.aload_n 0, 1) := by decide +kernel
theorem dX10_loan_1 : decode cX10_loan 1 = .ok (.iload_n 1, 1) := by decide +kernel
theorem dX10_loan_2 : decode cX10_loan 2 = .ok (.invokevirtual 241, 3) := by decide +kernel
theorem dX10_loan_5 : decode cX10_loan 5 = .ok (.ifCond .ne 6, 3) := by decide +kernel
theorem dX10_loan_8 : decode cX10_loan 8 = .ok (.bipush (-2), 2) := by decide +kernel
theorem dX10_loan_10 : decode cX10_loan 10 = .ok (.ireturn, 1) := by decide +kernel
theorem dX10_loan_11 : decode cX10_loan 11 = .ok (.iload_n 2, 1) := by decide +kernel
theorem dX10_loan_12 : decode cX10_loan 12 = .ok (.tableswitch 113 0 9 #[56, 56, 56, 56, 68, 74, 80, 86, 92, 103], 56) := by decide +kernel
theorem dX10_loan_68 : decode cX10_loan 68 = .ok (.aload_n 0, 1) := by decide +kernel
theorem dX10_loan_69 : decode cX10_loan 69 = .ok (.getfield 7, 3) := by decide +kernel
theorem dX10_loan_72 : decode cX10_loan 72 = .ok (.iload_n 1, 1) := by decide +kernel
theorem dX10_loan_73 : decode cX10_loan 73 = .ok (.invokestatic 128, 3) := by decide +kernel
theorem dX10_loan_76 : decode cX10_loan 76 = .ok (.iload_n 2, 1) := by decide +kernel
theorem dX10_loan_77 : decode cX10_loan 77 = .ok (.iadd, 1) := by decide +kernel
theorem dX10_loan_78 : decode cX10_loan 78 = .ok (.iaload, 1) := by decide +kernel
theorem dX10_loan_79 : decode cX10_loan 79 = .ok (.ireturn, 1) := by decide +kernel
theorem dX10_loan_80 : decode cX10_loan 80 = .ok (.aload_n 0, 1) := by decide +kernel
theorem dX10_loan_81 : decode cX10_loan 81 = .ok (.iload_n 1, 1) := by decide +kernel
theorem dX10_loan_82 : decode cX10_loan 82 = .ok (.invokevirtual 246, 3) := by decide +kernel
theorem dX10_loan_85 : decode cX10_loan 85 = .ok (.ireturn, 1) := by decide +kernel
theorem dX10_loan_86 : decode cX10_loan 86 = .ok (.aload_n 0, 1) := by decide +kernel
theorem dX10_loan_87 : decode cX10_loan 87 = .ok (.iload_n 1, 1) := by decide +kernel
theorem dX10_loan_88 : decode cX10_loan 88 = .ok (.invokevirtual 249, 3) := by decide +kernel
theorem dX10_loan_91 : decode cX10_loan 91 = .ok (.ireturn, 1) := by decide +kernel
theorem dX10_loan_92 : decode cX10_loan 92 = .ok (.aload_n 0, 1) := by decide +kernel
theorem dX10_loan_93 : decode cX10_loan 93 = .ok (.iload_n 1, 1) := by decide +kernel
theorem dX10_loan_94 : decode cX10_loan 94 = .ok (.invokevirtual 204, 3) := by decide +kernel
theorem dX10_loan_97 : decode cX10_loan 97 = .ok (.ireturn, 1) := by decide +kernel
theorem dX10_loan_98 : decode cX10_loan 98 = .ok (.aload_n 0, 1) := by decide +kernel
theorem dX10_loan_99 : decode cX10_loan 99 = .ok (.iload_n 1, 1) := by decide +kernel
theorem dX10_loan_100 : decode cX10_loan 100 = .ok (.invokevirtual 207, 3) := by decide +kernel
theorem dX10_loan_103 : decode cX10_loan 103 = .ok (.ireturn, 1) := by decide +kernel
theorem dX10_loan_104 : decode cX10_loan 104 = .ok (.aload_n 0, 1) := by decide +kernel
theorem dX10_loan_105 : decode cX10_loan 105 = .ok (.invokevirtual 252, 3) := by decide +kernel
theorem dX10_loan_108 : decode cX10_loan 108 = .ok (.aload_n 0, 1) := by decide +kernel
theorem dX10_loan_109 : decode cX10_loan 109 = .ok (.getfield 41, 3) := by decide +kernel
theorem dX10_loan_112 : decode cX10_loan 112 = .ok (.iload_n 1, 1) := by decide +kernel
theorem dX10_loan_113 : decode cX10_loan 113 = .ok (.iaload, 1) := by decide +kernel
theorem dX10_loan_114 : decode cX10_loan 114 = .ok (.ireturn, 1) := by decide +kernel
theorem dX10_loan_115 : decode cX10_loan 115 = .ok (.aload_n 0, 1) := by decide +kernel
theorem dX10_loan_116 : decode cX10_loan 116 = .ok (.invokevirtual 252, 3) := by decide +kernel
theorem dX10_loan_119 : decode cX10_loan 119 = .ok (.aload_n 0, 1) := by decide +kernel
theorem dX10_loan_120 : decode cX10_loan 120 = .ok (.iload_n 1, 1) := by decide +kernel
theorem dX10_loan_121 : decode cX10_loan 121 = .ok (.invokevirtual 255, 3) := by decide +kernel
theorem dX10_loan_124 : decode cX10_loan 124 = .ok (.ireturn, 1) := by decide +kernel
theorem dX10_loan_125 : decode cX10_loan 125 = .ok (.bipush (-3), 2) := by decide +kernel
theorem dX10_loan_127 : decode cX10_loan 127 = .ok (.ireturn, 1) := by decide +kernel
set_option maxRecDepth 100000 in
theorem B_X10_loan_0 {d : Nat} {h : AbH} {K : Option AbV → AbH → Prop} {x0 : Nat} {x1 : Int} {x2 : Int} (hh : wpCV h (some x0) 9 (fun b44 => Vm d m_X10_isLoan [vR (some b44), vI x1] h (kI (fun n2 h1 => ((n2 ≠ 0 → ((x2 = 0 → wpGR h1 (some x0) 9 0 (fun r3 => Vm d m_X10_loanAt [vI x1] h1 (kI (fun n5 h4 => in32 (n5 + x2) ∧ wpLI h4 r3 (n5 + x2) (fun n7 => K (some (vI n7)) h4))))) ∧ (x2 = 1 → wpGR h1 (some x0) 9 0 (fun r8 => Vm d m_X10_loanAt [vI x1] h1 (kI (fun n10 h9 => in32 (n10 + x2) ∧ wpLI h9 r8 (n10 + x2) (fun n12 => K (some (vI n12)) h9))))) ∧ (x2 = 2 → wpGR h1 (some x0) 9 0 (fun r13 => Vm d m_X10_loanAt [vI x1] h1 (kI (fun n15 h14 => in32 (n15 + x2) ∧ wpLI h14 r13 (n15 + x2) (fun n17 => K (some (vI n17)) h14))))) ∧ (x2 = 3 → wpGR h1 (some x0) 9 0 (fun r18 => Vm d m_X10_loanAt [vI x1] h1 (kI (fun n20 h19 => in32 (n20 + x2) ∧ wpLI h19 r18 (n20 + x2) (fun n22 => K (some (vI n22)) h19))))) ∧ (x2 = 4 → wpCV h1 (some x0) 9 (fun b25 => Vm d m_X10_kind [vR (some b25), vI x1] h1 (kI (fun n24 h23 => K (some (vI n24)) h23)))) ∧ (x2 = 5 → wpCV h1 (some x0) 9 (fun b28 => Vm d m_X10_windows [vR (some b28), vI x1] h1 (kI (fun n27 h26 => K (some (vI n27)) h26)))) ∧ (x2 = 6 → wpCV h1 (some x0) 9 (fun b31 => Vm d m_X10_firstOf [vR (some b31), vI x1] h1 (kI (fun n30 h29 => K (some (vI n30)) h29)))) ∧ (x2 = 7 → wpCV h1 (some x0) 9 (fun b34 => Vm d m_X10_lastOf [vR (some b34), vI x1] h1 (kI (fun n33 h32 => K (some (vI n33)) h32)))) ∧ (x2 = 8 → wpCV h1 (some x0) 9 (fun b38 => Vm d m_X10_finds [vR (some b38)] h1 (kV (fun h35 => wpGR h35 (some x0) 9 19 (fun r36 => wpLI h35 r36 x1 (fun n37 => K (some (vI n37)) h35)))))) ∧ (x2 = 9 → wpCV h1 (some x0) 9 (fun b43 => Vm d m_X10_finds [vR (some b43)] h1 (kV (fun h39 => wpCV h39 (some x0) 9 (fun b42 => Vm d m_X10_olderThan [vR (some b42), vI x1] h39 (kI (fun n41 h40 => K (some (vI n41)) h40))))))) ∧ ((x2 < 0 ∨ 9 < x2) → K (some (vI (-3))) h1))) ∧ (¬ (n2 ≠ 0) → K (some (vI (-2))) h1)))))) : Vx (d + 1) m_X10_loan 0 0 0 [some (vR (some x0)), some (vI x1), some (vI x2)] [] h K := by
  refine rr_aload_n dX10_loan_0 rfl rfl ?_
  refine rr_iload_n dX10_loan_1 rfl rfl ?_
  refine rr_callW (bc' := 0) (bs' := 0) (q := (some x0)) (av := [vI x1]) (st := []) mf_X10_isLoan dX10_loan_2 rfl q_982 q_984 qs_46 ⟨_, _, rfl⟩ rfl (by decide) (Nat.le_refl _) (Nat.le_refl _) hh (rr_kI fun n2 h1 hh => ?_)
  refine rr_if_ne (tgt := 11) dX10_loan_5 rfl (by decide) (fun hc5 => ?_) (fun hc5 => ?_)
  · have hh := hh.1 hc5
    refine rr_iload_n dX10_loan_11 rfl rfl ?_
    by_cases hz12_0 : x2 = 0
    · have hh := hh.1 hz12_0
      refine rr_tableIn (pc' := 68) 0 dX10_loan_12 (by rw [hz12_0]; rfl) (by decide) rfl (by decide) ?_
      refine rr_aload_n dX10_loan_68 rfl rfl ?_
      refine rr_getR cf_X10 (j := 0) (by decide) dX10_loan_69 rfl q_754 hh (fun r3 hh => ?_)
      refine rr_iload_n dX10_loan_72 rfl rfl ?_
      refine rr_callS (bc' := 0) (bs' := 0) (av := [vI x1]) (st := [vR r3]) mf_X10_loanAt dX10_loan_73 rfl q_918 q_919 rfl (cs_le _ (Nat.le_of_ble_eq_true rfl)) (Nat.le_refl _) (Nat.le_refl _) hh (rr_kI fun n5 h4 hh => ?_)
      refine rr_iload_n dX10_loan_76 rfl rfl ?_
      obtain ⟨hz6, hh⟩ := hh
      refine rr_iadd dX10_loan_77 rfl hz6 ?_
      refine rr_iald dX10_loan_78 rfl hh (fun n7 hh => ?_)
      exact rr_iret dX10_loan_79 rfl hh
    by_cases hz12_1 : x2 = 1
    · have hh := hh.2.1 hz12_1
      refine rr_tableIn (pc' := 68) 1 dX10_loan_12 (by rw [hz12_1]; rfl) (by decide) rfl (by decide) ?_
      refine rr_aload_n dX10_loan_68 rfl rfl ?_
      refine rr_getR cf_X10 (j := 0) (by decide) dX10_loan_69 rfl q_754 hh (fun r8 hh => ?_)
      refine rr_iload_n dX10_loan_72 rfl rfl ?_
      refine rr_callS (bc' := 0) (bs' := 0) (av := [vI x1]) (st := [vR r8]) mf_X10_loanAt dX10_loan_73 rfl q_918 q_919 rfl (cs_le _ (Nat.le_of_ble_eq_true rfl)) (Nat.le_refl _) (Nat.le_refl _) hh (rr_kI fun n10 h9 hh => ?_)
      refine rr_iload_n dX10_loan_76 rfl rfl ?_
      obtain ⟨hz11, hh⟩ := hh
      refine rr_iadd dX10_loan_77 rfl hz11 ?_
      refine rr_iald dX10_loan_78 rfl hh (fun n12 hh => ?_)
      exact rr_iret dX10_loan_79 rfl hh
    by_cases hz12_2 : x2 = 2
    · have hh := hh.2.2.1 hz12_2
      refine rr_tableIn (pc' := 68) 2 dX10_loan_12 (by rw [hz12_2]; rfl) (by decide) rfl (by decide) ?_
      refine rr_aload_n dX10_loan_68 rfl rfl ?_
      refine rr_getR cf_X10 (j := 0) (by decide) dX10_loan_69 rfl q_754 hh (fun r13 hh => ?_)
      refine rr_iload_n dX10_loan_72 rfl rfl ?_
      refine rr_callS (bc' := 0) (bs' := 0) (av := [vI x1]) (st := [vR r13]) mf_X10_loanAt dX10_loan_73 rfl q_918 q_919 rfl (cs_le _ (Nat.le_of_ble_eq_true rfl)) (Nat.le_refl _) (Nat.le_refl _) hh (rr_kI fun n15 h14 hh => ?_)
      refine rr_iload_n dX10_loan_76 rfl rfl ?_
      obtain ⟨hz16, hh⟩ := hh
      refine rr_iadd dX10_loan_77 rfl hz16 ?_
      refine rr_iald dX10_loan_78 rfl hh (fun n17 hh => ?_)
      exact rr_iret dX10_loan_79 rfl hh
    by_cases hz12_3 : x2 = 3
    · have hh := hh.2.2.2.1 hz12_3
      refine rr_tableIn (pc' := 68) 3 dX10_loan_12 (by rw [hz12_3]; rfl) (by decide) rfl (by decide) ?_
      refine rr_aload_n dX10_loan_68 rfl rfl ?_
      refine rr_getR cf_X10 (j := 0) (by decide) dX10_loan_69 rfl q_754 hh (fun r18 hh => ?_)
      refine rr_iload_n dX10_loan_72 rfl rfl ?_
      refine rr_callS (bc' := 0) (bs' := 0) (av := [vI x1]) (st := [vR r18]) mf_X10_loanAt dX10_loan_73 rfl q_918 q_919 rfl (cs_le _ (Nat.le_of_ble_eq_true rfl)) (Nat.le_refl _) (Nat.le_refl _) hh (rr_kI fun n20 h19 hh => ?_)
      refine rr_iload_n dX10_loan_76 rfl rfl ?_
      obtain ⟨hz21, hh⟩ := hh
      refine rr_iadd dX10_loan_77 rfl hz21 ?_
      refine rr_iald dX10_loan_78 rfl hh (fun n22 hh => ?_)
      exact rr_iret dX10_loan_79 rfl hh
    by_cases hz12_4 : x2 = 4
    · have hh := hh.2.2.2.2.1 hz12_4
      refine rr_tableIn (pc' := 80) 4 dX10_loan_12 (by rw [hz12_4]; rfl) (by decide) rfl (by decide) ?_
      refine rr_aload_n dX10_loan_80 rfl rfl ?_
      refine rr_iload_n dX10_loan_81 rfl rfl ?_
      refine rr_callW (bc' := 0) (bs' := 0) (q := (some x0)) (av := [vI x1]) (st := []) mf_X10_kind dX10_loan_82 rfl q_1035 q_1037 qs_52 ⟨_, _, rfl⟩ rfl (by decide) (Nat.le_refl _) (Nat.le_refl _) hh (rr_kI fun n24 h23 hh => ?_)
      exact rr_iret dX10_loan_85 rfl hh
    by_cases hz12_5 : x2 = 5
    · have hh := hh.2.2.2.2.2.1 hz12_5
      refine rr_tableIn (pc' := 86) 5 dX10_loan_12 (by rw [hz12_5]; rfl) (by decide) rfl (by decide) ?_
      refine rr_aload_n dX10_loan_86 rfl rfl ?_
      refine rr_iload_n dX10_loan_87 rfl rfl ?_
      refine rr_callW (bc' := 0) (bs' := 0) (q := (some x0)) (av := [vI x1]) (st := []) mf_X10_windows dX10_loan_88 rfl q_1059 q_1061 qs_58 ⟨_, _, rfl⟩ rfl (by decide) (Nat.le_refl _) (Nat.le_refl _) hh (rr_kI fun n27 h26 hh => ?_)
      exact rr_iret dX10_loan_91 rfl hh
    by_cases hz12_6 : x2 = 6
    · have hh := hh.2.2.2.2.2.2.1 hz12_6
      refine rr_tableIn (pc' := 92) 6 dX10_loan_12 (by rw [hz12_6]; rfl) (by decide) rfl (by decide) ?_
      refine rr_aload_n dX10_loan_92 rfl rfl ?_
      refine rr_iload_n dX10_loan_93 rfl rfl ?_
      refine rr_callW (bc' := 0) (bs' := 0) (q := (some x0)) (av := [vI x1]) (st := []) mf_X10_firstOf dX10_loan_94 rfl q_1039 q_1041 qs_53 ⟨_, _, rfl⟩ rfl (by decide) (Nat.le_refl _) (Nat.le_refl _) hh (rr_kI fun n30 h29 hh => ?_)
      exact rr_iret dX10_loan_97 rfl hh
    by_cases hz12_7 : x2 = 7
    · have hh := hh.2.2.2.2.2.2.2.1 hz12_7
      refine rr_tableIn (pc' := 98) 7 dX10_loan_12 (by rw [hz12_7]; rfl) (by decide) rfl (by decide) ?_
      refine rr_aload_n dX10_loan_98 rfl rfl ?_
      refine rr_iload_n dX10_loan_99 rfl rfl ?_
      refine rr_callW (bc' := 0) (bs' := 0) (q := (some x0)) (av := [vI x1]) (st := []) mf_X10_lastOf dX10_loan_100 rfl q_1063 q_1065 qs_59 ⟨_, _, rfl⟩ rfl (by decide) (Nat.le_refl _) (Nat.le_refl _) hh (rr_kI fun n33 h32 hh => ?_)
      exact rr_iret dX10_loan_103 rfl hh
    by_cases hz12_8 : x2 = 8
    · have hh := hh.2.2.2.2.2.2.2.2.1 hz12_8
      refine rr_tableIn (pc' := 104) 8 dX10_loan_12 (by rw [hz12_8]; rfl) (by decide) rfl (by decide) ?_
      refine rr_aload_n dX10_loan_104 rfl rfl ?_
      refine rr_callW (bc' := 0) (bs' := 0) (q := (some x0)) (av := []) (st := []) mf_X10_finds dX10_loan_105 rfl q_1067 q_1069 qs_60 ⟨_, _, rfl⟩ rfl (by decide) (Nat.le_refl _) (Nat.le_refl _) hh (rr_kV fun h35 hh => ?_)
      refine rr_aload_n dX10_loan_108 rfl rfl ?_
      refine rr_getR cf_X10 (j := 19) (by decide) dX10_loan_109 rfl q_773 hh (fun r36 hh => ?_)
      refine rr_iload_n dX10_loan_112 rfl rfl ?_
      refine rr_iald dX10_loan_113 rfl hh (fun n37 hh => ?_)
      exact rr_iret dX10_loan_114 rfl hh
    by_cases hz12_9 : x2 = 9
    · have hh := hh.2.2.2.2.2.2.2.2.2.1 hz12_9
      refine rr_tableIn (pc' := 115) 9 dX10_loan_12 (by rw [hz12_9]; rfl) (by decide) rfl (by decide) ?_
      refine rr_aload_n dX10_loan_115 rfl rfl ?_
      refine rr_callW (bc' := 0) (bs' := 0) (q := (some x0)) (av := []) (st := []) mf_X10_finds dX10_loan_116 rfl q_1067 q_1069 qs_60 ⟨_, _, rfl⟩ rfl (by decide) (Nat.le_refl _) (Nat.le_refl _) hh (rr_kV fun h39 hh => ?_)
      refine rr_aload_n dX10_loan_119 rfl rfl ?_
      refine rr_iload_n dX10_loan_120 rfl rfl ?_
      refine rr_callW (bc' := 0) (bs' := 0) (q := (some x0)) (av := [vI x1]) (st := []) mf_X10_olderThan dX10_loan_121 rfl q_1075 q_1077 qs_62 ⟨_, _, rfl⟩ rfl (by decide) (Nat.le_refl _) (Nat.le_refl _) hh (rr_kI fun n41 h40 hh => ?_)
      exact rr_iret dX10_loan_124 rfl hh
    have hz12_o : x2 < 0 ∨ 9 < x2 := by omega
    have hh := hh.2.2.2.2.2.2.2.2.2.2 hz12_o
    refine rr_tableOut (pc' := 125) dX10_loan_12 hz12_o (by decide) ?_
    refine rr_bipush dX10_loan_125 rfl ⟨by decide, by decide⟩ rfl ?_
    exact rr_iret dX10_loan_127 rfl hh
  · have hh := hh.2 hc5
    refine rr_bipush dX10_loan_8 rfl ⟨by decide, by decide⟩ rfl ?_
    exact rr_iret dX10_loan_10 rfl hh
theorem dX10_sound_0 : decode cX10_sound 0 = .ok (.aload_n 0, 1) := by decide +kernel
theorem dX10_sound_1 : decode cX10_sound 1 = .ok (.iload_n 1, 1) := by decide +kernel
theorem dX10_sound_2 : decode cX10_sound 2 = .ok (.invokevirtual 241, 3) := by decide +kernel
theorem dX10_sound_5 : decode cX10_sound 5 = .ok (.ifCond .ne 6, 3) := by decide +kernel
theorem dX10_sound_8 : decode cX10_sound 8 = .ok (.bipush (-2), 2) := by decide +kernel
theorem dX10_sound_10 : decode cX10_sound 10 = .ok (.ireturn, 1) := by decide +kernel
theorem dX10_sound_11 : decode cX10_sound 11 = .ok (.iload_n 2, 1) := by decide +kernel
theorem dX10_sound_12 : decode cX10_sound 12 = .ok (.i2l, 1) := by decide +kernel
theorem dX10_sound_13 : decode cX10_sound 13 = .ok (.lconst 0, 1) := by decide +kernel
theorem dX10_sound_14 : decode cX10_sound 14 = .ok (.lconst 1, 1) := by decide +kernel
theorem dX10_sound_15 : decode cX10_sound 15 = .ok (.invokestatic 52, 3) := by decide +kernel
theorem dX10_sound_18 : decode cX10_sound 18 = .ok (.ifCond .ne 6, 3) := by decide +kernel
theorem dX10_sound_21 : decode cX10_sound 21 = .ok (.bipush (-3), 2) := by decide +kernel
theorem dX10_sound_23 : decode cX10_sound 23 = .ok (.ireturn, 1) := by decide +kernel
theorem dX10_sound_24 : decode cX10_sound 24 = .ok (.iload_n 1, 1) := by decide +kernel
theorem dX10_sound_25 : decode cX10_sound 25 = .ok (.invokestatic 128, 3) := by decide +kernel
theorem dX10_sound_28 : decode cX10_sound 28 = .ok (.istore 4, 2) := by decide +kernel
theorem dX10_sound_30 : decode cX10_sound 30 = .ok (.iload_n 3, 1) := by decide +kernel
theorem dX10_sound_31 : decode cX10_sound 31 = .ok (.i2l, 1) := by decide +kernel
theorem dX10_sound_32 : decode cX10_sound 32 = .ok (.lconst 0, 1) := by decide +kernel
theorem dX10_sound_33 : decode cX10_sound 33 = .ok (.aload_n 0, 1) := by decide +kernel
theorem dX10_sound_34 : decode cX10_sound 34 = .ok (.getfield 7, 3) := by decide +kernel
theorem dX10_sound_37 : decode cX10_sound 37 = .ok (.iload 4, 2) := by decide +kernel
theorem dX10_sound_39 : decode cX10_sound 39 = .ok (.iconst 2, 1) := by decide +kernel
theorem dX10_sound_40 : decode cX10_sound 40 = .ok (.iadd, 1) := by decide +kernel
theorem dX10_sound_41 : decode cX10_sound 41 = .ok (.iload_n 2, 1) := by decide +kernel
theorem dX10_sound_42 : decode cX10_sound 42 = .ok (.iadd, 1) := by decide +kernel
theorem dX10_sound_43 : decode cX10_sound 43 = .ok (.iaload, 1) := by decide +kernel
theorem dX10_sound_44 : decode cX10_sound 44 = .ok (.iconst 1, 1) := by decide +kernel
theorem dX10_sound_45 : decode cX10_sound 45 = .ok (.isub, 1) := by decide +kernel
theorem dX10_sound_46 : decode cX10_sound 46 = .ok (.i2l, 1) := by decide +kernel
theorem dX10_sound_47 : decode cX10_sound 47 = .ok (.invokestatic 52, 3) := by decide +kernel
theorem dX10_sound_50 : decode cX10_sound 50 = .ok (.ifCond .eq 26, 3) := by decide +kernel
theorem dX10_sound_53 : decode cX10_sound 53 = .ok (.aload_n 0, 1) := by decide +kernel
theorem dX10_sound_54 : decode cX10_sound 54 = .ok (.getfield 7, 3) := by decide +kernel
theorem dX10_sound_57 : decode cX10_sound 57 = .ok (.iload 4, 2) := by decide +kernel
theorem dX10_sound_59 : decode cX10_sound 59 = .ok (.iload_n 2, 1) := by decide +kernel
theorem dX10_sound_60 : decode cX10_sound 60 = .ok (.ifCond .ne 7, 3) := by decide +kernel
theorem dX10_sound_63 : decode cX10_sound 63 = .ok (.iconst 4, 1) := by decide +kernel
theorem dX10_sound_64 : decode cX10_sound 64 = .ok (.goto 5, 3) := by decide +kernel
theorem dX10_sound_67 : decode cX10_sound 67 = .ok (.bipush 12, 2) := by decide +kernel
theorem dX10_sound_69 : decode cX10_sound 69 = .ok (.iadd, 1) := by decide +kernel
theorem dX10_sound_70 : decode cX10_sound 70 = .ok (.iload_n 3, 1) := by decide +kernel
theorem dX10_sound_71 : decode cX10_sound 71 = .ok (.iadd, 1) := by decide +kernel
theorem dX10_sound_72 : decode cX10_sound 72 = .ok (.iaload, 1) := by decide +kernel
theorem dX10_sound_73 : decode cX10_sound 73 = .ok (.goto 5, 3) := by decide +kernel
theorem dX10_sound_76 : decode cX10_sound 76 = .ok (.bipush (-2), 2) := by decide +kernel
theorem dX10_sound_78 : decode cX10_sound 78 = .ok (.ireturn, 1) := by decide +kernel
set_option maxRecDepth 100000 in
theorem B_X10_sound_0 {d : Nat} {h : AbH} {K : Option AbV → AbH → Prop} {x0 : Nat} {x1 : Int} {x2 : Int} {x3 : Int} (hh : wpCV h (some x0) 9 (fun b21 => Vm d m_X10_isLoan [vR (some b21), vI x1] h (kI (fun n2 h1 => ((n2 ≠ 0 → Vm d m_X10_in [vL x2, vL 0, vL 1] h1 (kI (fun n4 h3 => ((n4 ≠ 0 → Vm d m_X10_loanAt [vI x1] h3 (kI (fun n6 h5 => wpGR h5 (some x0) 9 0 (fun r7 => in32 (n6 + 2) ∧ in32 ((n6 + 2) + x2) ∧ wpLI h5 r7 ((n6 + 2) + x2) (fun n10 => in32 (n10 - 1) ∧ Vm d m_X10_in [vL x3, vL 0, vL (n10 - 1)] h5 (kI (fun n13 h12 => ((n13 = 0 → K (some (vI (-2))) h12) ∧ (¬ (n13 = 0) → wpGR h12 (some x0) 9 0 (fun r14 => ((x2 ≠ 0 → in32 (n6 + 12) ∧ in32 ((n6 + 12) + x3) ∧ wpLI h12 r14 ((n6 + 12) + x3) (fun n17 => K (some (vI n17)) h12)) ∧ (¬ (x2 ≠ 0) → in32 (n6 + 4) ∧ in32 ((n6 + 4) + x3) ∧ wpLI h12 r14 ((n6 + 4) + x3) (fun n20 => K (some (vI n20)) h12))))))))))))) ∧ (¬ (n4 ≠ 0) → K (some (vI (-3))) h3))))) ∧ (¬ (n2 ≠ 0) → K (some (vI (-2))) h1)))))) : Vx (d + 1) m_X10_sound 0 0 0 [some (vR (some x0)), some (vI x1), some (vI x2), some (vI x3)] [] h K := by
  refine Vx.pad 1 [some (vR (some x0)), some (vI x1), some (vI x2), some (vI x3), none] rfl ?_
  refine rr_aload_n dX10_sound_0 rfl rfl ?_
  refine rr_iload_n dX10_sound_1 rfl rfl ?_
  refine rr_callW (bc' := 0) (bs' := 0) (q := (some x0)) (av := [vI x1]) (st := []) mf_X10_isLoan dX10_sound_2 rfl q_982 q_984 qs_46 ⟨_, _, rfl⟩ rfl (by decide) (Nat.le_refl _) (Nat.le_refl _) hh (rr_kI fun n2 h1 hh => ?_)
  refine rr_if_ne (tgt := 11) dX10_sound_5 rfl (by decide) (fun hc5 => ?_) (fun hc5 => ?_)
  · have hh := hh.1 hc5
    refine rr_iload_n dX10_sound_11 rfl rfl ?_
    refine rr_i2l dX10_sound_12 rfl ?_
    refine rr_lconst (n := 0) dX10_sound_13 rfl ⟨by decide, by decide⟩ rfl ?_
    refine rr_lconst (n := 1) dX10_sound_14 rfl ⟨by decide, by decide⟩ rfl ?_
    refine rr_callS (bc' := 0) (bs' := 0) (av := [vL x2, vL 0, vL 1]) (st := []) mf_X10_in dX10_sound_15 rfl q_829 q_830 rfl (by decide) (Nat.le_refl _) (Nat.le_refl _) hh (rr_kI fun n4 h3 hh => ?_)
    refine rr_if_ne (tgt := 24) dX10_sound_18 rfl (by decide) (fun hc18 => ?_) (fun hc18 => ?_)
    · have hh := hh.1 hc18
      refine rr_iload_n dX10_sound_24 rfl rfl ?_
      refine rr_callS (bc' := 0) (bs' := 0) (av := [vI x1]) (st := []) mf_X10_loanAt dX10_sound_25 rfl q_918 q_919 rfl (by decide) (Nat.le_refl _) (Nat.le_refl _) hh (rr_kI fun n6 h5 hh => ?_)
      refine rr_istore (ls' := [some (vR (some x0)), some (vI x1), some (vI x2), some (vI x3), some (vI n6)]) dX10_sound_28 rfl (by decide) (fun _ z => by cases z) rfl ?_
      refine rr_iload_n dX10_sound_30 rfl rfl ?_
      refine rr_i2l dX10_sound_31 rfl ?_
      refine rr_lconst (n := 0) dX10_sound_32 rfl ⟨by decide, by decide⟩ rfl ?_
      refine rr_aload_n dX10_sound_33 rfl rfl ?_
      refine rr_getR cf_X10 (j := 0) (by decide) dX10_sound_34 rfl q_754 hh (fun r7 hh => ?_)
      refine rr_iload dX10_sound_37 rfl rfl ?_
      refine rr_iconst dX10_sound_39 rfl ⟨by decide, by decide⟩ ?_
      obtain ⟨hz8, hh⟩ := hh
      refine rr_iadd dX10_sound_40 rfl hz8 ?_
      refine rr_iload_n dX10_sound_41 rfl rfl ?_
      obtain ⟨hz9, hh⟩ := hh
      refine rr_iadd dX10_sound_42 rfl hz9 ?_
      refine rr_iald dX10_sound_43 rfl hh (fun n10 hh => ?_)
      refine rr_iconst dX10_sound_44 rfl ⟨by decide, by decide⟩ ?_
      obtain ⟨hz11, hh⟩ := hh
      refine rr_isub dX10_sound_45 rfl hz11 ?_
      refine rr_i2l dX10_sound_46 rfl ?_
      refine rr_callS (bc' := 0) (bs' := 0) (av := [vL x3, vL 0, vL (n10 - 1)]) (st := []) mf_X10_in dX10_sound_47 rfl q_829 q_830 rfl (by decide) (Nat.le_refl _) (Nat.le_refl _) hh (rr_kI fun n13 h12 hh => ?_)
      refine rr_if_eq (tgt := 76) dX10_sound_50 rfl (by decide) (fun hc50 => ?_) (fun hc50 => ?_)
      · have hh := hh.1 hc50
        refine rr_bipush dX10_sound_76 rfl ⟨by decide, by decide⟩ rfl ?_
        exact rr_iret dX10_sound_78 rfl hh
      · have hh := hh.2 hc50
        refine rr_aload_n dX10_sound_53 rfl rfl ?_
        refine rr_getR cf_X10 (j := 0) (by decide) dX10_sound_54 rfl q_754 hh (fun r14 hh => ?_)
        refine rr_iload dX10_sound_57 rfl rfl ?_
        refine rr_iload_n dX10_sound_59 rfl rfl ?_
        refine rr_if_ne (tgt := 67) dX10_sound_60 rfl (by decide) (fun hc60 => ?_) (fun hc60 => ?_)
        · have hh := hh.1 hc60
          refine rr_bipush dX10_sound_67 rfl ⟨by decide, by decide⟩ rfl ?_
          obtain ⟨hz15, hh⟩ := hh
          refine rr_iadd dX10_sound_69 rfl hz15 ?_
          refine rr_iload_n dX10_sound_70 rfl rfl ?_
          obtain ⟨hz16, hh⟩ := hh
          refine rr_iadd dX10_sound_71 rfl hz16 ?_
          refine rr_iald dX10_sound_72 rfl hh (fun n17 hh => ?_)
          refine rr_goto (pc' := 78) dX10_sound_73 (by decide) ?_
          exact rr_iret dX10_sound_78 rfl hh
        · have hh := hh.2 hc60
          refine rr_iconst dX10_sound_63 rfl ⟨by decide, by decide⟩ ?_
          refine rr_goto (pc' := 69) dX10_sound_64 (by decide) ?_
          obtain ⟨hz18, hh⟩ := hh
          refine rr_iadd dX10_sound_69 rfl hz18 ?_
          refine rr_iload_n dX10_sound_70 rfl rfl ?_
          obtain ⟨hz19, hh⟩ := hh
          refine rr_iadd dX10_sound_71 rfl hz19 ?_
          refine rr_iald dX10_sound_72 rfl hh (fun n20 hh => ?_)
          refine rr_goto (pc' := 78) dX10_sound_73 (by decide) ?_
          exact rr_iret dX10_sound_78 rfl hh
    · have hh := hh.2 hc18
      refine rr_bipush dX10_sound_21 rfl ⟨by decide, by decide⟩ rfl ?_
      exact rr_iret dX10_sound_23 rfl hh
  · have hh := hh.2 hc5
    refine rr_bipush dX10_sound_8 rfl ⟨by decide, by decide⟩ rfl ?_
    exact rr_iret dX10_sound_10 rfl hh
theorem dX10_window_0 : decode cX10_window 0 = .ok (.aload_n 0, 1) := by decide +kernel
theorem dX10_window_1 : decode cX10_window 1 = .ok (.iload_n 1, 1) := by decide +kernel
theorem dX10_window_2 : decode cX10_window 2 = .ok (.invokevirtual 241, 3) := by decide +kernel
theorem dX10_window_5 : decode cX10_window 5 = .ok (.ifCond .eq 18, 3) := by decide +kernel
theorem dX10_window_8 : decode cX10_window 8 = .ok (.iload_n 2, 1) := by decide +kernel
theorem dX10_window_9 : decode cX10_window 9 = .ok (.ifCond .lt 14, 3) := by decide +kernel
theorem dX10_window_12 : decode cX10_window 12 = .ok (.aload_n 0, 1) := by decide +kernel
theorem dX10_window_13 : decode cX10_window 13 = .ok (.iload_n 1, 1) := by decide +kernel
theorem dX10_window_14 : decode cX10_window 14 = .ok (.iload_n 2, 1) := by decide +kernel
theorem dX10_window_15 : decode cX10_window 15 = .ok (.iconst 1, 1) := by decide +kernel
theorem dX10_window_16 : decode cX10_window 16 = .ok (.invokevirtual 200, 3) := by decide +kernel
theorem dX10_window_19 : decode cX10_window 19 = .ok (.iconst (-1), 1) := by decide +kernel
theorem dX10_window_20 : decode cX10_window 20 = .ok (.if_icmp .ne 6, 3) := by decide +kernel
theorem dX10_window_23 : decode cX10_window 23 = .ok (.bipush (-2), 2) := by decide +kernel
theorem dX10_window_25 : decode cX10_window 25 = .ok (.ireturn, 1) := by decide +kernel
theorem dX10_window_26 : decode cX10_window 26 = .ok (.iload_n 3, 1) := by decide +kernel
theorem dX10_window_27 : decode cX10_window 27 = .ok (.ifCond .ne 13, 3) := by decide +kernel
theorem dX10_window_30 : decode cX10_window 30 = .ok (.aload_n 0, 1) := by decide +kernel
theorem dX10_window_31 : decode cX10_window 31 = .ok (.iload_n 1, 1) := by decide +kernel
theorem dX10_window_32 : decode cX10_window 32 = .ok (.iload_n 2, 1) := by decide +kernel
theorem dX10_window_33 : decode cX10_window 33 = .ok (.iconst 1, 1) := by decide +kernel
theorem dX10_window_34 : decode cX10_window 34 = .ok (.invokevirtual 200, 3) := by decide +kernel
theorem dX10_window_37 : decode cX10_window 37 = .ok (.goto 20, 3) := by decide +kernel
theorem dX10_window_40 : decode cX10_window 40 = .ok (.iload_n 3, 1) := by decide +kernel
theorem dX10_window_41 : decode cX10_window 41 = .ok (.iconst 1, 1) := by decide +kernel
theorem dX10_window_42 : decode cX10_window 42 = .ok (.if_icmp .ne 13, 3) := by decide +kernel
theorem dX10_window_45 : decode cX10_window 45 = .ok (.aload_n 0, 1) := by decide +kernel
theorem dX10_window_46 : decode cX10_window 46 = .ok (.iload_n 1, 1) := by decide +kernel
theorem dX10_window_47 : decode cX10_window 47 = .ok (.iload_n 2, 1) := by decide +kernel
theorem dX10_window_48 : decode cX10_window 48 = .ok (.iconst 0, 1) := by decide +kernel
theorem dX10_window_49 : decode cX10_window 49 = .ok (.invokevirtual 200, 3) := by decide +kernel
theorem dX10_window_52 : decode cX10_window 52 = .ok (.goto 5, 3) := by decide +kernel
theorem dX10_window_55 : decode cX10_window 55 = .ok (.bipush (-3), 2) := by decide +kernel
theorem dX10_window_57 : decode cX10_window 57 = .ok (.ireturn, 1) := by decide +kernel
set_option maxRecDepth 100000 in
theorem B_X10_window_0 {d : Nat} {h : AbH} {K : Option AbV → AbH → Prop} {x0 : Nat} {x1 : Int} {x2 : Int} {x3 : Int} (hh : wpCV h (some x0) 9 (fun b12 => Vm d m_X10_isLoan [vR (some b12), vI x1] h (kI (fun n2 h1 => ((n2 = 0 → K (some (vI (-2))) h1) ∧ (¬ (n2 = 0) → ((x2 < 0 → K (some (vI (-2))) h1) ∧ (¬ (x2 < 0) → wpCV h1 (some x0) 9 (fun b11 => Vm d m_X10_windowOf [vR (some b11), vI x1, vI x2, vI 1] h1 (kI (fun n4 h3 => ((n4 ≠ (-1) → ((x3 ≠ 0 → ((x3 ≠ 1 → K (some (vI (-3))) h3) ∧ (¬ (x3 ≠ 1) → wpCV h3 (some x0) 9 (fun b7 => Vm d m_X10_windowOf [vR (some b7), vI x1, vI x2, vI 0] h3 (kI (fun n6 h5 => K (some (vI n6)) h5)))))) ∧ (¬ (x3 ≠ 0) → wpCV h3 (some x0) 9 (fun b10 => Vm d m_X10_windowOf [vR (some b10), vI x1, vI x2, vI 1] h3 (kI (fun n9 h8 => K (some (vI n9)) h8)))))) ∧ (¬ (n4 ≠ (-1)) → K (some (vI (-2))) h3))))))))))))) : Vx (d + 1) m_X10_window 0 0 0 [some (vR (some x0)), some (vI x1), some (vI x2), some (vI x3)] [] h K := by
  refine rr_aload_n dX10_window_0 rfl rfl ?_
  refine rr_iload_n dX10_window_1 rfl rfl ?_
  refine rr_callW (bc' := 0) (bs' := 0) (q := (some x0)) (av := [vI x1]) (st := []) mf_X10_isLoan dX10_window_2 rfl q_982 q_984 qs_46 ⟨_, _, rfl⟩ rfl (by decide) (Nat.le_refl _) (Nat.le_refl _) hh (rr_kI fun n2 h1 hh => ?_)
  refine rr_if_eq (tgt := 23) dX10_window_5 rfl (by decide) (fun hc5 => ?_) (fun hc5 => ?_)
  · have hh := hh.1 hc5
    refine rr_bipush dX10_window_23 rfl ⟨by decide, by decide⟩ rfl ?_
    exact rr_iret dX10_window_25 rfl hh
  · have hh := hh.2 hc5
    refine rr_iload_n dX10_window_8 rfl rfl ?_
    refine rr_if_lt (tgt := 23) dX10_window_9 rfl (by decide) (fun hc9 => ?_) (fun hc9 => ?_)
    · have hh := hh.1 hc9
      refine rr_bipush dX10_window_23 rfl ⟨by decide, by decide⟩ rfl ?_
      exact rr_iret dX10_window_25 rfl hh
    · have hh := hh.2 hc9
      refine rr_aload_n dX10_window_12 rfl rfl ?_
      refine rr_iload_n dX10_window_13 rfl rfl ?_
      refine rr_iload_n dX10_window_14 rfl rfl ?_
      refine rr_iconst dX10_window_15 rfl ⟨by decide, by decide⟩ ?_
      refine rr_callW (bc' := 0) (bs' := 0) (q := (some x0)) (av := [vI x1, vI x2, vI 1]) (st := []) mf_X10_windowOf dX10_window_16 rfl q_1043 q_1045 qs_54 ⟨_, _, rfl⟩ rfl (by decide) (Nat.le_refl _) (Nat.le_refl _) hh (rr_kI fun n4 h3 hh => ?_)
      refine rr_iconst dX10_window_19 rfl ⟨by decide, by decide⟩ ?_
      refine rr_icmp_ne (tgt := 26) dX10_window_20 rfl (by decide) (fun hc20 => ?_) (fun hc20 => ?_)
      · have hh := hh.1 hc20
        refine rr_iload_n dX10_window_26 rfl rfl ?_
        refine rr_if_ne (tgt := 40) dX10_window_27 rfl (by decide) (fun hc27 => ?_) (fun hc27 => ?_)
        · have hh := hh.1 hc27
          refine rr_iload_n dX10_window_40 rfl rfl ?_
          refine rr_iconst dX10_window_41 rfl ⟨by decide, by decide⟩ ?_
          refine rr_icmp_ne (tgt := 55) dX10_window_42 rfl (by decide) (fun hc42 => ?_) (fun hc42 => ?_)
          · have hh := hh.1 hc42
            refine rr_bipush dX10_window_55 rfl ⟨by decide, by decide⟩ rfl ?_
            exact rr_iret dX10_window_57 rfl hh
          · have hh := hh.2 hc42
            refine rr_aload_n dX10_window_45 rfl rfl ?_
            refine rr_iload_n dX10_window_46 rfl rfl ?_
            refine rr_iload_n dX10_window_47 rfl rfl ?_
            refine rr_iconst dX10_window_48 rfl ⟨by decide, by decide⟩ ?_
            refine rr_callW (bc' := 0) (bs' := 0) (q := (some x0)) (av := [vI x1, vI x2, vI 0]) (st := []) mf_X10_windowOf dX10_window_49 rfl q_1043 q_1045 qs_54 ⟨_, _, rfl⟩ rfl (by decide) (Nat.le_refl _) (Nat.le_refl _) hh (rr_kI fun n6 h5 hh => ?_)
            refine rr_goto (pc' := 57) dX10_window_52 (by decide) ?_
            exact rr_iret dX10_window_57 rfl hh
        · have hh := hh.2 hc27
          refine rr_aload_n dX10_window_30 rfl rfl ?_
          refine rr_iload_n dX10_window_31 rfl rfl ?_
          refine rr_iload_n dX10_window_32 rfl rfl ?_
          refine rr_iconst dX10_window_33 rfl ⟨by decide, by decide⟩ ?_
          refine rr_callW (bc' := 0) (bs' := 0) (q := (some x0)) (av := [vI x1, vI x2, vI 1]) (st := []) mf_X10_windowOf dX10_window_34 rfl q_1043 q_1045 qs_54 ⟨_, _, rfl⟩ rfl (by decide) (Nat.le_refl _) (Nat.le_refl _) hh (rr_kI fun n9 h8 hh => ?_)
          refine rr_goto (pc' := 57) dX10_window_37 (by decide) ?_
          exact rr_iret dX10_window_57 rfl hh
      · have hh := hh.2 hc20
        refine rr_bipush dX10_window_23 rfl ⟨by decide, by decide⟩ rfl ?_
        exact rr_iret dX10_window_25 rfl hh
theorem dX10_formAt_0 : decode cX10_formAt 0 = .ok (.iload_n 1, 1) := by decide +kernel
theorem dX10_formAt_1 : decode cX10_formAt 1 = .ok (.iconst (-1), 1) := by decide +kernel
theorem dX10_formAt_2 : decode cX10_formAt 2 = .ok (.if_icmp .ne 10, 3) := by decide +kernel
theorem dX10_formAt_5 : decode cX10_formAt 5 = .ok (.aload_n 0, 1) := by decide +kernel
theorem dX10_formAt_6 : decode cX10_formAt 6 = .ok (.getfield 169, 3) := by decide +kernel
theorem dX10_formAt_9 : decode cX10_formAt 9 = .ok (.goto 30, 3) := by decide +kernel
theorem dX10_formAt_12 : decode cX10_formAt 12 = .ok (.iload_n 1, 1) := by decide +kernel
theorem dX10_formAt_13 : decode cX10_formAt 13 = .ok (.i2l, 1) := by decide +kernel
theorem dX10_formAt_14 : decode cX10_formAt 14 = .ok (.lconst 0, 1) := by decide +kernel
theorem dX10_formAt_15 : decode cX10_formAt 15 = .ok (.aload_n 0, 1) := by decide +kernel
theorem dX10_formAt_16 : decode cX10_formAt 16 = .ok (.getfield 169, 3) := by decide +kernel
theorem dX10_formAt_19 : decode cX10_formAt 19 = .ok (.iconst 1, 1) := by decide +kernel
theorem dX10_formAt_20 : decode cX10_formAt 20 = .ok (.isub, 1) := by decide +kernel
theorem dX10_formAt_21 : decode cX10_formAt 21 = .ok (.i2l, 1) := by decide +kernel
theorem dX10_formAt_22 : decode cX10_formAt 22 = .ok (.invokestatic 52, 3) := by decide +kernel
theorem dX10_formAt_25 : decode cX10_formAt 25 = .ok (.ifCond .eq 12, 3) := by decide +kernel
theorem dX10_formAt_28 : decode cX10_formAt 28 = .ok (.aload_n 0, 1) := by decide +kernel
theorem dX10_formAt_29 : decode cX10_formAt 29 = .ok (.getfield 29, 3) := by decide +kernel
theorem dX10_formAt_32 : decode cX10_formAt 32 = .ok (.iload_n 1, 1) := by decide +kernel
theorem dX10_formAt_33 : decode cX10_formAt 33 = .ok (.iaload, 1) := by decide +kernel
theorem dX10_formAt_34 : decode cX10_formAt 34 = .ok (.goto 5, 3) := by decide +kernel
theorem dX10_formAt_37 : decode cX10_formAt 37 = .ok (.bipush (-2), 2) := by decide +kernel
theorem dX10_formAt_39 : decode cX10_formAt 39 = .ok (.ireturn, 1) := by decide +kernel
set_option maxRecDepth 100000 in
theorem B_X10_formAt_0 {d : Nat} {h : AbH} {K : Option AbV → AbH → Prop} {x0 : Nat} {x1 : Int} (hh : ((x1 ≠ (-1) → wpGI h (some x0) 9 15 (fun n1 => in32 (n1 - 1) ∧ Vm d m_X10_in [vL x1, vL 0, vL (n1 - 1)] h (kI (fun n4 h3 => ((n4 = 0 → K (some (vI (-2))) h3) ∧ (¬ (n4 = 0) → wpGR h3 (some x0) 9 14 (fun r5 => wpLI h3 r5 x1 (fun n6 => K (some (vI n6)) h3)))))))) ∧ (¬ (x1 ≠ (-1)) → wpGI h (some x0) 9 15 (fun n7 => K (some (vI n7)) h)))) : Vx (d + 1) m_X10_formAt 0 0 0 [some (vR (some x0)), some (vI x1)] [] h K := by
  refine rr_iload_n dX10_formAt_0 rfl rfl ?_
  refine rr_iconst dX10_formAt_1 rfl ⟨by decide, by decide⟩ ?_
  refine rr_icmp_ne (tgt := 12) dX10_formAt_2 rfl (by decide) (fun hc2 => ?_) (fun hc2 => ?_)
  · have hh := hh.1 hc2
    refine rr_iload_n dX10_formAt_12 rfl rfl ?_
    refine rr_i2l dX10_formAt_13 rfl ?_
    refine rr_lconst (n := 0) dX10_formAt_14 rfl ⟨by decide, by decide⟩ rfl ?_
    refine rr_aload_n dX10_formAt_15 rfl rfl ?_
    refine rr_getI cf_X10 (j := 15) (by decide) dX10_formAt_16 rfl q_769 hh (fun n1 hh => ?_)
    refine rr_iconst dX10_formAt_19 rfl ⟨by decide, by decide⟩ ?_
    obtain ⟨hz2, hh⟩ := hh
    refine rr_isub dX10_formAt_20 rfl hz2 ?_
    refine rr_i2l dX10_formAt_21 rfl ?_
    refine rr_callS (bc' := 0) (bs' := 0) (av := [vL x1, vL 0, vL (n1 - 1)]) (st := []) mf_X10_in dX10_formAt_22 rfl q_829 q_830 rfl (by decide) (Nat.le_refl _) (Nat.le_refl _) hh (rr_kI fun n4 h3 hh => ?_)
    refine rr_if_eq (tgt := 37) dX10_formAt_25 rfl (by decide) (fun hc25 => ?_) (fun hc25 => ?_)
    · have hh := hh.1 hc25
      refine rr_bipush dX10_formAt_37 rfl ⟨by decide, by decide⟩ rfl ?_
      exact rr_iret dX10_formAt_39 rfl hh
    · have hh := hh.2 hc25
      refine rr_aload_n dX10_formAt_28 rfl rfl ?_
      refine rr_getR cf_X10 (j := 14) (by decide) dX10_formAt_29 rfl q_768 hh (fun r5 hh => ?_)
      refine rr_iload_n dX10_formAt_32 rfl rfl ?_
      refine rr_iald dX10_formAt_33 rfl hh (fun n6 hh => ?_)
      refine rr_goto (pc' := 39) dX10_formAt_34 (by decide) ?_
      exact rr_iret dX10_formAt_39 rfl hh
  · have hh := hh.2 hc2
    refine rr_aload_n dX10_formAt_5 rfl rfl ?_
    refine rr_getI cf_X10 (j := 15) (by decide) dX10_formAt_6 rfl q_769 hh (fun n7 hh => ?_)
    refine rr_goto (pc' := 39) dX10_formAt_9 (by decide) ?_
    exact rr_iret dX10_formAt_39 rfl hh
theorem dX10_taken_0 : decode cX10_taken 0 = .ok (.aload_n 0, 1) := by decide +kernel
theorem dX10_taken_1 : decode cX10_taken 1 = .ok (.iload_n 1, 1) := by decide +kernel
theorem dX10_taken_2 : decode cX10_taken 2 = .ok (.invokevirtual 241, 3) := by decide +kernel
theorem dX10_taken_5 : decode cX10_taken 5 = .ok (.ifCond .ne 6, 3) := by decide +kernel
theorem dX10_taken_8 : decode cX10_taken 8 = .ok (.bipush (-2), 2) := by decide +kernel
theorem dX10_taken_10 : decode cX10_taken 10 = .ok (.ireturn, 1) := by decide +kernel
theorem dX10_taken_11 : decode cX10_taken 11 = .ok (.iload_n 2, 1) := by decide +kernel
theorem dX10_taken_12 : decode cX10_taken 12 = .ok (.invokestatic 235, 3) := by decide +kernel
theorem dX10_taken_15 : decode cX10_taken 15 = .ok (.ifCond .ne 6, 3) := by decide +kernel
theorem dX10_taken_18 : decode cX10_taken 18 = .ok (.bipush (-3), 2) := by decide +kernel
theorem dX10_taken_20 : decode cX10_taken 20 = .ok (.ireturn, 1) := by decide +kernel
theorem dX10_taken_21 : decode cX10_taken 21 = .ok (.aload_n 0, 1) := by decide +kernel
theorem dX10_taken_22 : decode cX10_taken 22 = .ok (.iload_n 1, 1) := by decide +kernel
theorem dX10_taken_23 : decode cX10_taken 23 = .ok (.aload_n 0, 1) := by decide +kernel
theorem dX10_taken_24 : decode cX10_taken 24 = .ok (.getfield 7, 3) := by decide +kernel
theorem dX10_taken_27 : decode cX10_taken 27 = .ok (.iload_n 1, 1) := by decide +kernel
theorem dX10_taken_28 : decode cX10_taken 28 = .ok (.invokestatic 128, 3) := by decide +kernel
theorem dX10_taken_31 : decode cX10_taken 31 = .ok (.iconst 0, 1) := by decide +kernel
theorem dX10_taken_32 : decode cX10_taken 32 = .ok (.iadd, 1) := by decide +kernel
theorem dX10_taken_33 : decode cX10_taken 33 = .ok (.iaload, 1) := by decide +kernel
theorem dX10_taken_34 : decode cX10_taken 34 = .ok (.aload_n 0, 1) := by decide +kernel
theorem dX10_taken_35 : decode cX10_taken 35 = .ok (.getfield 7, 3) := by decide +kernel
theorem dX10_taken_38 : decode cX10_taken 38 = .ok (.iload_n 1, 1) := by decide +kernel
theorem dX10_taken_39 : decode cX10_taken 39 = .ok (.invokestatic 128, 3) := by decide +kernel
theorem dX10_taken_42 : decode cX10_taken 42 = .ok (.iconst 1, 1) := by decide +kernel
theorem dX10_taken_43 : decode cX10_taken 43 = .ok (.iadd, 1) := by decide +kernel
theorem dX10_taken_44 : decode cX10_taken 44 = .ok (.iaload, 1) := by decide +kernel
theorem dX10_taken_45 : decode cX10_taken 45 = .ok (.iload_n 2, 1) := by decide +kernel
theorem dX10_taken_46 : decode cX10_taken 46 = .ok (.invokevirtual 190, 3) := by decide +kernel
theorem dX10_taken_49 : decode cX10_taken 49 = .ok (.aload_n 0, 1) := by decide +kernel
theorem dX10_taken_50 : decode cX10_taken 50 = .ok (.iload_n 3, 1) := by decide +kernel
theorem dX10_taken_51 : decode cX10_taken 51 = .ok (.invokevirtual 258, 3) := by decide +kernel
theorem dX10_taken_54 : decode cX10_taken 54 = .ok (.ireturn, 1) := by decide +kernel
set_option maxRecDepth 100000 in
theorem B_X10_taken_0 {d : Nat} {h : AbH} {K : Option AbV → AbH → Prop} {x0 : Nat} {x1 : Int} {x2 : Int} {x3 : Int} (hh : wpCV h (some x0) 9 (fun b20 => Vm d m_X10_isLoan [vR (some b20), vI x1] h (kI (fun n2 h1 => ((n2 ≠ 0 → Vm d m_X10_isDate [vI x2] h1 (kI (fun n4 h3 => ((n4 ≠ 0 → wpGR h3 (some x0) 9 0 (fun r5 => Vm d m_X10_loanAt [vI x1] h3 (kI (fun n7 h6 => in32 (n7 + 0) ∧ wpLI h6 r5 (n7 + 0) (fun n9 => wpGR h6 (some x0) 9 0 (fun r10 => Vm d m_X10_loanAt [vI x1] h6 (kI (fun n12 h11 => in32 (n12 + 1) ∧ wpLI h11 r10 (n12 + 1) (fun n14 => wpCV h11 (some x0) 9 (fun b19 => Vm d m_X10_takes [vR (some b19), vI x1, vI n9, vI n14, vI x2] h11 (kV (fun h15 => wpCV h15 (some x0) 9 (fun b18 => Vm d m_X10_formAt [vR (some b18), vI x3] h15 (kI (fun n17 h16 => K (some (vI n17)) h16))))))))))))))) ∧ (¬ (n4 ≠ 0) → K (some (vI (-3))) h3))))) ∧ (¬ (n2 ≠ 0) → K (some (vI (-2))) h1)))))) : Vx (d + 1) m_X10_taken 0 0 0 [some (vR (some x0)), some (vI x1), some (vI x2), some (vI x3)] [] h K := by
  refine rr_aload_n dX10_taken_0 rfl rfl ?_
  refine rr_iload_n dX10_taken_1 rfl rfl ?_
  refine rr_callW (bc' := 0) (bs' := 0) (q := (some x0)) (av := [vI x1]) (st := []) mf_X10_isLoan dX10_taken_2 rfl q_982 q_984 qs_46 ⟨_, _, rfl⟩ rfl (by decide) (Nat.le_refl _) (Nat.le_refl _) hh (rr_kI fun n2 h1 hh => ?_)
  refine rr_if_ne (tgt := 11) dX10_taken_5 rfl (by decide) (fun hc5 => ?_) (fun hc5 => ?_)
  · have hh := hh.1 hc5
    refine rr_iload_n dX10_taken_11 rfl rfl ?_
    refine rr_callS (bc' := 0) (bs' := 0) (av := [vI x2]) (st := []) mf_X10_isDate dX10_taken_12 rfl q_967 q_968 rfl (by decide) (Nat.le_refl _) (Nat.le_refl _) hh (rr_kI fun n4 h3 hh => ?_)
    refine rr_if_ne (tgt := 21) dX10_taken_15 rfl (by decide) (fun hc15 => ?_) (fun hc15 => ?_)
    · have hh := hh.1 hc15
      refine rr_aload_n dX10_taken_21 rfl rfl ?_
      refine rr_iload_n dX10_taken_22 rfl rfl ?_
      refine rr_aload_n dX10_taken_23 rfl rfl ?_
      refine rr_getR cf_X10 (j := 0) (by decide) dX10_taken_24 rfl q_754 hh (fun r5 hh => ?_)
      refine rr_iload_n dX10_taken_27 rfl rfl ?_
      refine rr_callS (bc' := 0) (bs' := 0) (av := [vI x1]) (st := [vR r5, vI x1, vR (some x0)]) mf_X10_loanAt dX10_taken_28 rfl q_918 q_919 rfl (cs_le _ (Nat.le_of_ble_eq_true rfl)) (Nat.le_refl _) (Nat.le_refl _) hh (rr_kI fun n7 h6 hh => ?_)
      refine rr_iconst dX10_taken_31 rfl ⟨by decide, by decide⟩ ?_
      obtain ⟨hz8, hh⟩ := hh
      refine rr_iadd dX10_taken_32 rfl hz8 ?_
      refine rr_iald dX10_taken_33 rfl hh (fun n9 hh => ?_)
      refine rr_aload_n dX10_taken_34 rfl rfl ?_
      refine rr_getR cf_X10 (j := 0) (by decide) dX10_taken_35 rfl q_754 hh (fun r10 hh => ?_)
      refine rr_iload_n dX10_taken_38 rfl rfl ?_
      refine rr_callS (bc' := 0) (bs' := 0) (av := [vI x1]) (st := [vR r10, vI n9, vI x1, vR (some x0)]) mf_X10_loanAt dX10_taken_39 rfl q_918 q_919 rfl (cs_le _ (Nat.le_of_ble_eq_true rfl)) (Nat.le_refl _) (Nat.le_refl _) hh (rr_kI fun n12 h11 hh => ?_)
      refine rr_iconst dX10_taken_42 rfl ⟨by decide, by decide⟩ ?_
      obtain ⟨hz13, hh⟩ := hh
      refine rr_iadd dX10_taken_43 rfl hz13 ?_
      refine rr_iald dX10_taken_44 rfl hh (fun n14 hh => ?_)
      refine rr_iload_n dX10_taken_45 rfl rfl ?_
      refine rr_callW (bc' := 0) (bs' := 0) (q := (some x0)) (av := [vI x1, vI n9, vI n14, vI x2]) (st := []) mf_X10_takes dX10_taken_46 rfl q_986 q_988 qs_47 ⟨_, _, rfl⟩ rfl (by decide) (Nat.le_refl _) (Nat.le_refl _) hh (rr_kV fun h15 hh => ?_)
      refine rr_aload_n dX10_taken_49 rfl rfl ?_
      refine rr_iload_n dX10_taken_50 rfl rfl ?_
      refine rr_callW (bc' := 0) (bs' := 0) (q := (some x0)) (av := [vI x3]) (st := []) mf_X10_formAt dX10_taken_51 rfl q_1091 q_1093 qs_63 ⟨_, _, rfl⟩ rfl (by decide) (Nat.le_refl _) (Nat.le_refl _) hh (rr_kI fun n17 h16 hh => ?_)
      exact rr_iret dX10_taken_54 rfl hh
    · have hh := hh.2 hc15
      refine rr_bipush dX10_taken_18 rfl ⟨by decide, by decide⟩ rfl ?_
      exact rr_iret dX10_taken_20 rfl hh
  · have hh := hh.2 hc5
    refine rr_bipush dX10_taken_8 rfl ⟨by decide, by decide⟩ rfl ?_
    exact rr_iret dX10_taken_10 rfl hh
theorem dX10_gone_0 : decode cX10_gone 0 = .ok (.aload_n 0, 1) := by decide +kernel
theorem dX10_gone_1 : decode cX10_gone 1 = .ok (.iload_n 1, 1) := by decide +kernel
theorem dX10_gone_2 : decode cX10_gone 2 = .ok (.invokevirtual 241, 3) := by decide +kernel
theorem dX10_gone_5 : decode cX10_gone 5 = .ok (.ifCond .eq 10, 3) := by decide +kernel
theorem dX10_gone_8 : decode cX10_gone 8 = .ok (.iload_n 2, 1) := by decide +kernel
theorem dX10_gone_9 : decode cX10_gone 9 = .ok (.invokestatic 56, 3) := by decide +kernel
theorem dX10_gone_12 : decode cX10_gone 12 = .ok (.ifCond .ne 6, 3) := by decide +kernel
theorem dX10_gone_15 : decode cX10_gone 15 = .ok (.bipush (-2), 2) := by decide +kernel
theorem dX10_gone_17 : decode cX10_gone 17 = .ok (.ireturn, 1) := by decide +kernel
theorem dX10_gone_18 : decode cX10_gone 18 = .ok (.iload_n 3, 1) := by decide +kernel
theorem dX10_gone_19 : decode cX10_gone 19 = .ok (.invokestatic 235, 3) := by decide +kernel
theorem dX10_gone_22 : decode cX10_gone 22 = .ok (.ifCond .eq 11, 3) := by decide +kernel
theorem dX10_gone_25 : decode cX10_gone 25 = .ok (.iload 4, 2) := by decide +kernel
theorem dX10_gone_27 : decode cX10_gone 27 = .ok (.invokestatic 235, 3) := by decide +kernel
theorem dX10_gone_30 : decode cX10_gone 30 = .ok (.ifCond .ne 6, 3) := by decide +kernel
theorem dX10_gone_33 : decode cX10_gone 33 = .ok (.bipush (-3), 2) := by decide +kernel
theorem dX10_gone_35 : decode cX10_gone 35 = .ok (.ireturn, 1) := by decide +kernel
theorem dX10_gone_36 : decode cX10_gone 36 = .ok (.aload_n 0, 1) := by decide +kernel
theorem dX10_gone_37 : decode cX10_gone 37 = .ok (.iload_n 1, 1) := by decide +kernel
theorem dX10_gone_38 : decode cX10_gone 38 = .ok (.invokevirtual 179, 3) := by decide +kernel
theorem dX10_gone_41 : decode cX10_gone 41 = .ok (.aload_n 0, 1) := by decide +kernel
theorem dX10_gone_42 : decode cX10_gone 42 = .ok (.iload_n 2, 1) := by decide +kernel
theorem dX10_gone_43 : decode cX10_gone 43 = .ok (.iload_n 3, 1) := by decide +kernel
theorem dX10_gone_44 : decode cX10_gone 44 = .ok (.iload 4, 2) := by decide +kernel
theorem dX10_gone_46 : decode cX10_gone 46 = .ok (.invokevirtual 183, 3) := by decide +kernel
theorem dX10_gone_49 : decode cX10_gone 49 = .ok (.aload_n 0, 1) := by decide +kernel
theorem dX10_gone_50 : decode cX10_gone 50 = .ok (.iload 5, 2) := by decide +kernel
theorem dX10_gone_52 : decode cX10_gone 52 = .ok (.invokevirtual 258, 3) := by decide +kernel
theorem dX10_gone_55 : decode cX10_gone 55 = .ok (.ireturn, 1) := by decide +kernel
set_option maxRecDepth 100000 in
theorem B_X10_gone_0 {d : Nat} {h : AbH} {K : Option AbV → AbH → Prop} {x0 : Nat} {x1 : Int} {x2 : Int} {x3 : Int} {x4 : Int} {x5 : Int} (hh : wpCV h (some x0) 9 (fun b16 => Vm d m_X10_isLoan [vR (some b16), vI x1] h (kI (fun n2 h1 => ((n2 = 0 → K (some (vI (-2))) h1) ∧ (¬ (n2 = 0) → Vm d m_X10_isTongue [vI x2] h1 (kI (fun n4 h3 => ((n4 ≠ 0 → Vm d m_X10_isDate [vI x3] h3 (kI (fun n6 h5 => ((n6 = 0 → K (some (vI (-3))) h5) ∧ (¬ (n6 = 0) → Vm d m_X10_isDate [vI x4] h5 (kI (fun n8 h7 => ((n8 ≠ 0 → wpCV h7 (some x0) 9 (fun b15 => Vm d m_X10_takesWord [vR (some b15), vI x1] h7 (kV (fun h9 => wpCV h9 (some x0) 9 (fun b14 => Vm d m_X10_goes [vR (some b14), vI x2, vI x3, vI x4] h9 (kV (fun h10 => wpCV h10 (some x0) 9 (fun b13 => Vm d m_X10_formAt [vR (some b13), vI x5] h10 (kI (fun n12 h11 => K (some (vI n12)) h11)))))))))) ∧ (¬ (n8 ≠ 0) → K (some (vI (-3))) h7))))))))) ∧ (¬ (n4 ≠ 0) → K (some (vI (-2))) h3)))))))))) : Vx (d + 1) m_X10_gone 0 0 0 [some (vR (some x0)), some (vI x1), some (vI x2), some (vI x3), some (vI x4), some (vI x5)] [] h K := by
  refine rr_aload_n dX10_gone_0 rfl rfl ?_
  refine rr_iload_n dX10_gone_1 rfl rfl ?_
  refine rr_callW (bc' := 0) (bs' := 0) (q := (some x0)) (av := [vI x1]) (st := []) mf_X10_isLoan dX10_gone_2 rfl q_982 q_984 qs_46 ⟨_, _, rfl⟩ rfl (by decide) (Nat.le_refl _) (Nat.le_refl _) hh (rr_kI fun n2 h1 hh => ?_)
  refine rr_if_eq (tgt := 15) dX10_gone_5 rfl (by decide) (fun hc5 => ?_) (fun hc5 => ?_)
  · have hh := hh.1 hc5
    refine rr_bipush dX10_gone_15 rfl ⟨by decide, by decide⟩ rfl ?_
    exact rr_iret dX10_gone_17 rfl hh
  · have hh := hh.2 hc5
    refine rr_iload_n dX10_gone_8 rfl rfl ?_
    refine rr_callS (bc' := 0) (bs' := 0) (av := [vI x2]) (st := []) mf_X10_isTongue dX10_gone_9 rfl q_933 q_934 rfl (by decide) (Nat.le_refl _) (Nat.le_refl _) hh (rr_kI fun n4 h3 hh => ?_)
    refine rr_if_ne (tgt := 18) dX10_gone_12 rfl (by decide) (fun hc12 => ?_) (fun hc12 => ?_)
    · have hh := hh.1 hc12
      refine rr_iload_n dX10_gone_18 rfl rfl ?_
      refine rr_callS (bc' := 0) (bs' := 0) (av := [vI x3]) (st := []) mf_X10_isDate dX10_gone_19 rfl q_967 q_968 rfl (by decide) (Nat.le_refl _) (Nat.le_refl _) hh (rr_kI fun n6 h5 hh => ?_)
      refine rr_if_eq (tgt := 33) dX10_gone_22 rfl (by decide) (fun hc22 => ?_) (fun hc22 => ?_)
      · have hh := hh.1 hc22
        refine rr_bipush dX10_gone_33 rfl ⟨by decide, by decide⟩ rfl ?_
        exact rr_iret dX10_gone_35 rfl hh
      · have hh := hh.2 hc22
        refine rr_iload dX10_gone_25 rfl rfl ?_
        refine rr_callS (bc' := 0) (bs' := 0) (av := [vI x4]) (st := []) mf_X10_isDate dX10_gone_27 rfl q_967 q_968 rfl (by decide) (Nat.le_refl _) (Nat.le_refl _) hh (rr_kI fun n8 h7 hh => ?_)
        refine rr_if_ne (tgt := 36) dX10_gone_30 rfl (by decide) (fun hc30 => ?_) (fun hc30 => ?_)
        · have hh := hh.1 hc30
          refine rr_aload_n dX10_gone_36 rfl rfl ?_
          refine rr_iload_n dX10_gone_37 rfl rfl ?_
          refine rr_callW (bc' := 0) (bs' := 0) (q := (some x0)) (av := [vI x1]) (st := []) mf_X10_takesWord dX10_gone_38 rfl q_990 q_992 qs_48 ⟨_, _, rfl⟩ rfl (by decide) (Nat.le_refl _) (Nat.le_refl _) hh (rr_kV fun h9 hh => ?_)
          refine rr_aload_n dX10_gone_41 rfl rfl ?_
          refine rr_iload_n dX10_gone_42 rfl rfl ?_
          refine rr_iload_n dX10_gone_43 rfl rfl ?_
          refine rr_iload dX10_gone_44 rfl rfl ?_
          refine rr_callW (bc' := 0) (bs' := 0) (q := (some x0)) (av := [vI x2, vI x3, vI x4]) (st := []) mf_X10_goes dX10_gone_46 rfl q_994 q_996 qs_49 ⟨_, _, rfl⟩ rfl (by decide) (Nat.le_refl _) (Nat.le_refl _) hh (rr_kV fun h10 hh => ?_)
          refine rr_aload_n dX10_gone_49 rfl rfl ?_
          refine rr_iload dX10_gone_50 rfl rfl ?_
          refine rr_callW (bc' := 0) (bs' := 0) (q := (some x0)) (av := [vI x5]) (st := []) mf_X10_formAt dX10_gone_52 rfl q_1091 q_1093 qs_63 ⟨_, _, rfl⟩ rfl (by decide) (Nat.le_refl _) (Nat.le_refl _) hh (rr_kI fun n12 h11 hh => ?_)
          exact rr_iret dX10_gone_55 rfl hh
        · have hh := hh.2 hc30
          refine rr_bipush dX10_gone_33 rfl ⟨by decide, by decide⟩ rfl ?_
          exact rr_iret dX10_gone_35 rfl hh
    · have hh := hh.2 hc12
      refine rr_bipush dX10_gone_15 rfl ⟨by decide, by decide⟩ rfl ?_
      exact rr_iret dX10_gone_17 rfl hh
theorem dX10_did_0 : decode cX10_did 0 = .ok (.aload_n 0, 1) := by decide +kernel
theorem dX10_did_1 : decode cX10_did 1 = .ok (.iload_n 1, 1) := by decide +kernel
theorem dX10_did_2 : decode cX10_did 2 = .ok (.invokevirtual 241, 3) := by decide +kernel
theorem dX10_did_5 : decode cX10_did 5 = .ok (.ifCond .eq 31, 3) := by decide +kernel
theorem dX10_did_8 : decode cX10_did 8 = .ok (.aload_n 0, 1) := by decide +kernel
theorem dX10_did_9 : decode cX10_did 9 = .ok (.iload_n 2, 1) := by decide +kernel
theorem dX10_did_10 : decode cX10_did 10 = .ok (.invokevirtual 229, 3) := by decide +kernel
theorem dX10_did_13 : decode cX10_did 13 = .ok (.ifCond .eq 23, 3) := by decide +kernel
theorem dX10_did_16 : decode cX10_did 16 = .ok (.aload_n 0, 1) := by decide +kernel
theorem dX10_did_17 : decode cX10_did 17 = .ok (.iload_n 2, 1) := by decide +kernel
theorem dX10_did_18 : decode cX10_did 18 = .ok (.iconst 0, 1) := by decide +kernel
theorem dX10_did_19 : decode cX10_did 19 = .ok (.invokevirtual 156, 3) := by decide +kernel
theorem dX10_did_22 : decode cX10_did 22 = .ok (.aload_n 0, 1) := by decide +kernel
theorem dX10_did_23 : decode cX10_did 23 = .ok (.getfield 7, 3) := by decide +kernel
theorem dX10_did_26 : decode cX10_did 26 = .ok (.iload_n 1, 1) := by decide +kernel
theorem dX10_did_27 : decode cX10_did 27 = .ok (.invokestatic 128, 3) := by decide +kernel
theorem dX10_did_30 : decode cX10_did 30 = .ok (.iconst 1, 1) := by decide +kernel
theorem dX10_did_31 : decode cX10_did 31 = .ok (.iadd, 1) := by decide +kernel
theorem dX10_did_32 : decode cX10_did 32 = .ok (.iaload, 1) := by decide +kernel
theorem dX10_did_33 : decode cX10_did 33 = .ok (.if_icmp .eq 6, 3) := by decide +kernel
theorem dX10_did_36 : decode cX10_did 36 = .ok (.bipush (-2), 2) := by decide +kernel
theorem dX10_did_38 : decode cX10_did 38 = .ok (.ireturn, 1) := by decide +kernel
theorem dX10_did_39 : decode cX10_did 39 = .ok (.iload_n 3, 1) := by decide +kernel
theorem dX10_did_40 : decode cX10_did 40 = .ok (.invokestatic 235, 3) := by decide +kernel
theorem dX10_did_43 : decode cX10_did 43 = .ok (.ifCond .ne 6, 3) := by decide +kernel
theorem dX10_did_46 : decode cX10_did 46 = .ok (.bipush (-3), 2) := by decide +kernel
theorem dX10_did_48 : decode cX10_did 48 = .ok (.ireturn, 1) := by decide +kernel
theorem dX10_did_49 : decode cX10_did 49 = .ok (.aload_n 0, 1) := by decide +kernel
theorem dX10_did_50 : decode cX10_did 50 = .ok (.iload_n 1, 1) := by decide +kernel
theorem dX10_did_51 : decode cX10_did 51 = .ok (.invokevirtual 179, 3) := by decide +kernel
theorem dX10_did_54 : decode cX10_did 54 = .ok (.aload_n 0, 1) := by decide +kernel
theorem dX10_did_55 : decode cX10_did 55 = .ok (.aload_n 0, 1) := by decide +kernel
theorem dX10_did_56 : decode cX10_did 56 = .ok (.getfield 7, 3) := by decide +kernel
theorem dX10_did_59 : decode cX10_did 59 = .ok (.iload_n 1, 1) := by decide +kernel
theorem dX10_did_60 : decode cX10_did 60 = .ok (.invokestatic 128, 3) := by decide +kernel
theorem dX10_did_63 : decode cX10_did 63 = .ok (.iconst 0, 1) := by decide +kernel
theorem dX10_did_64 : decode cX10_did 64 = .ok (.iadd, 1) := by decide +kernel
theorem dX10_did_65 : decode cX10_did 65 = .ok (.iaload, 1) := by decide +kernel
theorem dX10_did_66 : decode cX10_did 66 = .ok (.iconst 0, 1) := by decide +kernel
theorem dX10_did_67 : decode cX10_did 67 = .ok (.iload_n 3, 1) := by decide +kernel
theorem dX10_did_68 : decode cX10_did 68 = .ok (.invokevirtual 183, 3) := by decide +kernel
theorem dX10_did_71 : decode cX10_did 71 = .ok (.aload_n 0, 1) := by decide +kernel
theorem dX10_did_72 : decode cX10_did 72 = .ok (.iload_n 2, 1) := by decide +kernel
theorem dX10_did_73 : decode cX10_did 73 = .ok (.iconst 1, 1) := by decide +kernel
theorem dX10_did_74 : decode cX10_did 74 = .ok (.invokevirtual 156, 3) := by decide +kernel
theorem dX10_did_77 : decode cX10_did 77 = .ok (.iload_n 3, 1) := by decide +kernel
theorem dX10_did_78 : decode cX10_did 78 = .ok (.if_icmp .gt 17, 3) := by decide +kernel
theorem dX10_did_81 : decode cX10_did 81 = .ok (.aload_n 0, 1) := by decide +kernel
theorem dX10_did_82 : decode cX10_did 82 = .ok (.iload_n 2, 1) := by decide +kernel
theorem dX10_did_83 : decode cX10_did 83 = .ok (.invokevirtual 176, 3) := by decide +kernel
theorem dX10_did_86 : decode cX10_did 86 = .ok (.ifCond .eq 7, 3) := by decide +kernel
theorem dX10_did_89 : decode cX10_did 89 = .ok (.iconst 2, 1) := by decide +kernel
theorem dX10_did_90 : decode cX10_did 90 = .ok (.goto 4, 3) := by decide +kernel
theorem dX10_did_93 : decode cX10_did 93 = .ok (.iconst 0, 1) := by decide +kernel
theorem dX10_did_94 : decode cX10_did 94 = .ok (.ireturn, 1) := by decide +kernel
theorem dX10_did_95 : decode cX10_did 95 = .ok (.aload_n 0, 1) := by decide +kernel
theorem dX10_did_96 : decode cX10_did 96 = .ok (.aload_n 0, 1) := by decide +kernel
theorem dX10_did_97 : decode cX10_did 97 = .ok (.iload_n 2, 1) := by decide +kernel
theorem dX10_did_98 : decode cX10_did 98 = .ok (.iconst 0, 1) := by decide +kernel
theorem dX10_did_99 : decode cX10_did 99 = .ok (.invokevirtual 156, 3) := by decide +kernel
theorem dX10_did_102 : decode cX10_did 102 = .ok (.iload_n 3, 1) := by decide +kernel
theorem dX10_did_103 : decode cX10_did 103 = .ok (.aload_n 0, 1) := by decide +kernel
theorem dX10_did_104 : decode cX10_did 104 = .ok (.iload_n 2, 1) := by decide +kernel
theorem dX10_did_105 : decode cX10_did 105 = .ok (.iconst 1, 1) := by decide +kernel
theorem dX10_did_106 : decode cX10_did 106 = .ok (.invokevirtual 156, 3) := by decide +kernel
theorem dX10_did_109 : decode cX10_did 109 = .ok (.iconst 1, 1) := by decide +kernel
theorem dX10_did_110 : decode cX10_did 110 = .ok (.isub, 1) := by decide +kernel
theorem dX10_did_111 : decode cX10_did 111 = .ok (.invokevirtual 183, 3) := by decide +kernel
theorem dX10_did_114 : decode cX10_did 114 = .ok (.aload_n 0, 1) := by decide +kernel
theorem dX10_did_115 : decode cX10_did 115 = .ok (.iload_n 2, 1) := by decide +kernel
theorem dX10_did_116 : decode cX10_did 116 = .ok (.invokevirtual 176, 3) := by decide +kernel
theorem dX10_did_119 : decode cX10_did 119 = .ok (.ifCond .eq 7, 3) := by decide +kernel
theorem dX10_did_122 : decode cX10_did 122 = .ok (.iconst 1, 1) := by decide +kernel
theorem dX10_did_123 : decode cX10_did 123 = .ok (.goto 4, 3) := by decide +kernel
theorem dX10_did_126 : decode cX10_did 126 = .ok (.iconst 0, 1) := by decide +kernel
theorem dX10_did_127 : decode cX10_did 127 = .ok (.ireturn, 1) := by decide +kernel
set_option maxRecDepth 100000 in
theorem B_X10_did_0 {d : Nat} {h : AbH} {K : Option AbV → AbH → Prop} {x0 : Nat} {x1 : Int} {x2 : Int} {x3 : Int} (hh : wpCV h (some x0) 9 (fun b43 => Vm d m_X10_isLoan [vR (some b43), vI x1] h (kI (fun n2 h1 => ((n2 = 0 → K (some (vI (-2))) h1) ∧ (¬ (n2 = 0) → wpCV h1 (some x0) 9 (fun b42 => Vm d m_X10_isLaw [vR (some b42), vI x2] h1 (kI (fun n4 h3 => ((n4 = 0 → K (some (vI (-2))) h3) ∧ (¬ (n4 = 0) → wpCV h3 (some x0) 9 (fun b41 => Vm d m_X10_lawOf [vR (some b41), vI x2, vI 0] h3 (kI (fun n6 h5 => wpGR h5 (some x0) 9 0 (fun r7 => Vm d m_X10_loanAt [vI x1] h5 (kI (fun n9 h8 => in32 (n9 + 1) ∧ wpLI h8 r7 (n9 + 1) (fun n11 => ((n6 = n11 → Vm d m_X10_isDate [vI x3] h8 (kI (fun n13 h12 => ((n13 ≠ 0 → wpCV h12 (some x0) 9 (fun b40 => Vm d m_X10_takesWord [vR (some b40), vI x1] h12 (kV (fun h14 => wpGR h14 (some x0) 9 0 (fun r15 => Vm d m_X10_loanAt [vI x1] h14 (kI (fun n17 h16 => in32 (n17 + 0) ∧ wpLI h16 r15 (n17 + 0) (fun n19 => wpCV h16 (some x0) 9 (fun b39 => Vm d m_X10_goes [vR (some b39), vI n19, vI 0, vI x3] h16 (kV (fun h20 => wpCV h20 (some x0) 9 (fun b38 => Vm d m_X10_lawOf [vR (some b38), vI x2, vI 1] h20 (kI (fun n22 h21 => ((x3 < n22 → wpCV h21 (some x0) 9 (fun b34 => Vm d m_X10_lawOf [vR (some b34), vI x2, vI 0] h21 (kI (fun n24 h23 => wpCV h23 (some x0) 9 (fun b33 => Vm d m_X10_lawOf [vR (some b33), vI x2, vI 1] h23 (kI (fun n26 h25 => in32 (n26 - 1) ∧ wpCV h25 (some x0) 9 (fun b32 => Vm d m_X10_goes [vR (some b32), vI n24, vI x3, vI (n26 - 1)] h25 (kV (fun h28 => wpCV h28 (some x0) 9 (fun b31 => Vm d m_X10_hits [vR (some b31), vI x2] h28 (kI (fun n30 h29 => ((n30 = 0 → K (some (vI 0)) h29) ∧ (¬ (n30 = 0) → K (some (vI 1)) h29))))))))))))))) ∧ (¬ (x3 < n22) → wpCV h21 (some x0) 9 (fun b37 => Vm d m_X10_hits [vR (some b37), vI x2] h21 (kI (fun n36 h35 => ((n36 = 0 → K (some (vI 0)) h35) ∧ (¬ (n36 = 0) → K (some (vI 2)) h35))))))))))))))))))))) ∧ (¬ (n13 ≠ 0) → K (some (vI (-3))) h12))))) ∧ (¬ (n6 = n11) → K (some (vI (-2))) h8)))))))))))))))))))) : Vx (d + 1) m_X10_did 0 0 0 [some (vR (some x0)), some (vI x1), some (vI x2), some (vI x3)] [] h K := by
  refine rr_aload_n dX10_did_0 rfl rfl ?_
  refine rr_iload_n dX10_did_1 rfl rfl ?_
  refine rr_callW (bc' := 0) (bs' := 0) (q := (some x0)) (av := [vI x1]) (st := []) mf_X10_isLoan dX10_did_2 rfl q_982 q_984 qs_46 ⟨_, _, rfl⟩ rfl (by decide) (Nat.le_refl _) (Nat.le_refl _) hh (rr_kI fun n2 h1 hh => ?_)
  refine rr_if_eq (tgt := 36) dX10_did_5 rfl (by decide) (fun hc5 => ?_) (fun hc5 => ?_)
  · have hh := hh.1 hc5
    refine rr_bipush dX10_did_36 rfl ⟨by decide, by decide⟩ rfl ?_
    exact rr_iret dX10_did_38 rfl hh
  · have hh := hh.2 hc5
    refine rr_aload_n dX10_did_8 rfl rfl ?_
    refine rr_iload_n dX10_did_9 rfl rfl ?_
    refine rr_callW (bc' := 0) (bs' := 0) (q := (some x0)) (av := [vI x2]) (st := []) mf_X10_isLaw dX10_did_10 rfl q_956 q_958 qs_44 ⟨_, _, rfl⟩ rfl (by decide) (Nat.le_refl _) (Nat.le_refl _) hh (rr_kI fun n4 h3 hh => ?_)
    refine rr_if_eq (tgt := 36) dX10_did_13 rfl (by decide) (fun hc13 => ?_) (fun hc13 => ?_)
    · have hh := hh.1 hc13
      refine rr_bipush dX10_did_36 rfl ⟨by decide, by decide⟩ rfl ?_
      exact rr_iret dX10_did_38 rfl hh
    · have hh := hh.2 hc13
      refine rr_aload_n dX10_did_16 rfl rfl ?_
      refine rr_iload_n dX10_did_17 rfl rfl ?_
      refine rr_iconst dX10_did_18 rfl ⟨by decide, by decide⟩ ?_
      refine rr_callW (bc' := 0) (bs' := 0) (q := (some x0)) (av := [vI x2, vI 0]) (st := []) mf_X10_lawOf dX10_did_19 rfl q_848 q_850 qs_26 ⟨_, _, rfl⟩ rfl (by decide) (Nat.le_refl _) (Nat.le_refl _) hh (rr_kI fun n6 h5 hh => ?_)
      refine rr_aload_n dX10_did_22 rfl rfl ?_
      refine rr_getR cf_X10 (j := 0) (by decide) dX10_did_23 rfl q_754 hh (fun r7 hh => ?_)
      refine rr_iload_n dX10_did_26 rfl rfl ?_
      refine rr_callS (bc' := 0) (bs' := 0) (av := [vI x1]) (st := [vR r7, vI n6]) mf_X10_loanAt dX10_did_27 rfl q_918 q_919 rfl (cs_le _ (Nat.le_of_ble_eq_true rfl)) (Nat.le_refl _) (Nat.le_refl _) hh (rr_kI fun n9 h8 hh => ?_)
      refine rr_iconst dX10_did_30 rfl ⟨by decide, by decide⟩ ?_
      obtain ⟨hz10, hh⟩ := hh
      refine rr_iadd dX10_did_31 rfl hz10 ?_
      refine rr_iald dX10_did_32 rfl hh (fun n11 hh => ?_)
      refine rr_icmp_eq (tgt := 39) dX10_did_33 rfl (by decide) (fun hc33 => ?_) (fun hc33 => ?_)
      · have hh := hh.1 hc33
        refine rr_iload_n dX10_did_39 rfl rfl ?_
        refine rr_callS (bc' := 0) (bs' := 0) (av := [vI x3]) (st := []) mf_X10_isDate dX10_did_40 rfl q_967 q_968 rfl (by decide) (Nat.le_refl _) (Nat.le_refl _) hh (rr_kI fun n13 h12 hh => ?_)
        refine rr_if_ne (tgt := 49) dX10_did_43 rfl (by decide) (fun hc43 => ?_) (fun hc43 => ?_)
        · have hh := hh.1 hc43
          refine rr_aload_n dX10_did_49 rfl rfl ?_
          refine rr_iload_n dX10_did_50 rfl rfl ?_
          refine rr_callW (bc' := 0) (bs' := 0) (q := (some x0)) (av := [vI x1]) (st := []) mf_X10_takesWord dX10_did_51 rfl q_990 q_992 qs_48 ⟨_, _, rfl⟩ rfl (by decide) (Nat.le_refl _) (Nat.le_refl _) hh (rr_kV fun h14 hh => ?_)
          refine rr_aload_n dX10_did_54 rfl rfl ?_
          refine rr_aload_n dX10_did_55 rfl rfl ?_
          refine rr_getR cf_X10 (j := 0) (by decide) dX10_did_56 rfl q_754 hh (fun r15 hh => ?_)
          refine rr_iload_n dX10_did_59 rfl rfl ?_
          refine rr_callS (bc' := 0) (bs' := 0) (av := [vI x1]) (st := [vR r15, vR (some x0)]) mf_X10_loanAt dX10_did_60 rfl q_918 q_919 rfl (cs_le _ (Nat.le_of_ble_eq_true rfl)) (Nat.le_refl _) (Nat.le_refl _) hh (rr_kI fun n17 h16 hh => ?_)
          refine rr_iconst dX10_did_63 rfl ⟨by decide, by decide⟩ ?_
          obtain ⟨hz18, hh⟩ := hh
          refine rr_iadd dX10_did_64 rfl hz18 ?_
          refine rr_iald dX10_did_65 rfl hh (fun n19 hh => ?_)
          refine rr_iconst dX10_did_66 rfl ⟨by decide, by decide⟩ ?_
          refine rr_iload_n dX10_did_67 rfl rfl ?_
          refine rr_callW (bc' := 0) (bs' := 0) (q := (some x0)) (av := [vI n19, vI 0, vI x3]) (st := []) mf_X10_goes dX10_did_68 rfl q_994 q_996 qs_49 ⟨_, _, rfl⟩ rfl (by decide) (Nat.le_refl _) (Nat.le_refl _) hh (rr_kV fun h20 hh => ?_)
          refine rr_aload_n dX10_did_71 rfl rfl ?_
          refine rr_iload_n dX10_did_72 rfl rfl ?_
          refine rr_iconst dX10_did_73 rfl ⟨by decide, by decide⟩ ?_
          refine rr_callW (bc' := 0) (bs' := 0) (q := (some x0)) (av := [vI x2, vI 1]) (st := []) mf_X10_lawOf dX10_did_74 rfl q_848 q_850 qs_26 ⟨_, _, rfl⟩ rfl (by decide) (Nat.le_refl _) (Nat.le_refl _) hh (rr_kI fun n22 h21 hh => ?_)
          refine rr_iload_n dX10_did_77 rfl rfl ?_
          refine rr_icmp_gt (tgt := 95) dX10_did_78 rfl (by decide) (fun hc78 => ?_) (fun hc78 => ?_)
          · have hh := hh.1 hc78
            refine rr_aload_n dX10_did_95 rfl rfl ?_
            refine rr_aload_n dX10_did_96 rfl rfl ?_
            refine rr_iload_n dX10_did_97 rfl rfl ?_
            refine rr_iconst dX10_did_98 rfl ⟨by decide, by decide⟩ ?_
            refine rr_callW (bc' := 0) (bs' := 0) (q := (some x0)) (av := [vI x2, vI 0]) (st := [vR (some x0)]) mf_X10_lawOf dX10_did_99 rfl q_848 q_850 qs_26 ⟨_, _, rfl⟩ rfl (show 1 ≤ 8 by decide) (Nat.le_refl _) (Nat.le_refl _) hh (rr_kI fun n24 h23 hh => ?_)
            refine rr_iload_n dX10_did_102 rfl rfl ?_
            refine rr_aload_n dX10_did_103 rfl rfl ?_
            refine rr_iload_n dX10_did_104 rfl rfl ?_
            refine rr_iconst dX10_did_105 rfl ⟨by decide, by decide⟩ ?_
            refine rr_callW (bc' := 0) (bs' := 0) (q := (some x0)) (av := [vI x2, vI 1]) (st := [vI x3, vI n24, vR (some x0)]) mf_X10_lawOf dX10_did_106 rfl q_848 q_850 qs_26 ⟨_, _, rfl⟩ rfl (show 3 ≤ 8 by decide) (Nat.le_refl _) (Nat.le_refl _) hh (rr_kI fun n26 h25 hh => ?_)
            refine rr_iconst dX10_did_109 rfl ⟨by decide, by decide⟩ ?_
            obtain ⟨hz27, hh⟩ := hh
            refine rr_isub dX10_did_110 rfl hz27 ?_
            refine rr_callW (bc' := 0) (bs' := 0) (q := (some x0)) (av := [vI n24, vI x3, vI (n26 - 1)]) (st := []) mf_X10_goes dX10_did_111 rfl q_994 q_996 qs_49 ⟨_, _, rfl⟩ rfl (by decide) (Nat.le_refl _) (Nat.le_refl _) hh (rr_kV fun h28 hh => ?_)
            refine rr_aload_n dX10_did_114 rfl rfl ?_
            refine rr_iload_n dX10_did_115 rfl rfl ?_
            refine rr_callW (bc' := 0) (bs' := 0) (q := (some x0)) (av := [vI x2]) (st := []) mf_X10_hits dX10_did_116 rfl q_998 q_1000 qs_50 ⟨_, _, rfl⟩ rfl (by decide) (Nat.le_refl _) (Nat.le_refl _) hh (rr_kI fun n30 h29 hh => ?_)
            refine rr_if_eq (tgt := 126) dX10_did_119 rfl (by decide) (fun hc119 => ?_) (fun hc119 => ?_)
            · have hh := hh.1 hc119
              refine rr_iconst dX10_did_126 rfl ⟨by decide, by decide⟩ ?_
              exact rr_iret dX10_did_127 rfl hh
            · have hh := hh.2 hc119
              refine rr_iconst dX10_did_122 rfl ⟨by decide, by decide⟩ ?_
              refine rr_goto (pc' := 127) dX10_did_123 (by decide) ?_
              exact rr_iret dX10_did_127 rfl hh
          · have hh := hh.2 hc78
            refine rr_aload_n dX10_did_81 rfl rfl ?_
            refine rr_iload_n dX10_did_82 rfl rfl ?_
            refine rr_callW (bc' := 0) (bs' := 0) (q := (some x0)) (av := [vI x2]) (st := []) mf_X10_hits dX10_did_83 rfl q_998 q_1000 qs_50 ⟨_, _, rfl⟩ rfl (by decide) (Nat.le_refl _) (Nat.le_refl _) hh (rr_kI fun n36 h35 hh => ?_)
            refine rr_if_eq (tgt := 93) dX10_did_86 rfl (by decide) (fun hc86 => ?_) (fun hc86 => ?_)
            · have hh := hh.1 hc86
              refine rr_iconst dX10_did_93 rfl ⟨by decide, by decide⟩ ?_
              exact rr_iret dX10_did_94 rfl hh
            · have hh := hh.2 hc86
              refine rr_iconst dX10_did_89 rfl ⟨by decide, by decide⟩ ?_
              refine rr_goto (pc' := 94) dX10_did_90 (by decide) ?_
              exact rr_iret dX10_did_94 rfl hh
        · have hh := hh.2 hc43
          refine rr_bipush dX10_did_46 rfl ⟨by decide, by decide⟩ rfl ?_
          exact rr_iret dX10_did_48 rfl hh
      · have hh := hh.2 hc33
        refine rr_bipush dX10_did_36 rfl ⟨by decide, by decide⟩ rfl ?_
        exact rr_iret dX10_did_38 rfl hh
theorem dX10_older_0 : decode cX10_older 0 = .ok (.aload_n 0, 1) := by decide +kernel
theorem dX10_older_1 : decode cX10_older 1 = .ok (.iload_n 1, 1) := by decide +kernel
theorem dX10_older_2 : decode cX10_older 2 = .ok (.invokevirtual 241, 3) := by decide +kernel
theorem dX10_older_5 : decode cX10_older 5 = .ok (.ifCond .eq 11, 3) := by decide +kernel
theorem dX10_older_8 : decode cX10_older 8 = .ok (.aload_n 0, 1) := by decide +kernel
theorem dX10_older_9 : decode cX10_older 9 = .ok (.iload_n 2, 1) := by decide +kernel
theorem dX10_older_10 : decode cX10_older 10 = .ok (.invokevirtual 241, 3) := by decide +kernel
theorem dX10_older_13 : decode cX10_older 13 = .ok (.ifCond .ne 6, 3) := by decide +kernel
theorem dX10_older_16 : decode cX10_older 16 = .ok (.bipush (-2), 2) := by decide +kernel
theorem dX10_older_18 : decode cX10_older 18 = .ok (.ireturn, 1) := by decide +kernel
theorem dX10_older_19 : decode cX10_older 19 = .ok (.aload_n 0, 1) := by decide +kernel
theorem dX10_older_20 : decode cX10_older 20 = .ok (.invokevirtual 252, 3) := by decide +kernel
theorem dX10_older_23 : decode cX10_older 23 = .ok (.aload_n 0, 1) := by decide +kernel
theorem dX10_older_24 : decode cX10_older 24 = .ok (.iload_n 1, 1) := by decide +kernel
theorem dX10_older_25 : decode cX10_older 25 = .ok (.iload_n 2, 1) := by decide +kernel
theorem dX10_older_26 : decode cX10_older 26 = .ok (.invokevirtual 210, 3) := by decide +kernel
theorem dX10_older_29 : decode cX10_older 29 = .ok (.ifCond .eq 7, 3) := by decide +kernel
theorem dX10_older_32 : decode cX10_older 32 = .ok (.iconst 1, 1) := by decide +kernel
theorem dX10_older_33 : decode cX10_older 33 = .ok (.goto 4, 3) := by decide +kernel
theorem dX10_older_36 : decode cX10_older 36 = .ok (.iconst 0, 1) := by decide +kernel
theorem dX10_older_37 : decode cX10_older 37 = .ok (.ireturn, 1) := by decide +kernel
set_option maxRecDepth 100000 in
theorem B_X10_older_0 {d : Nat} {h : AbH} {K : Option AbV → AbH → Prop} {x0 : Nat} {x1 : Int} {x2 : Int} (hh : wpCV h (some x0) 9 (fun b11 => Vm d m_X10_isLoan [vR (some b11), vI x1] h (kI (fun n2 h1 => ((n2 = 0 → K (some (vI (-2))) h1) ∧ (¬ (n2 = 0) → wpCV h1 (some x0) 9 (fun b10 => Vm d m_X10_isLoan [vR (some b10), vI x2] h1 (kI (fun n4 h3 => ((n4 ≠ 0 → wpCV h3 (some x0) 9 (fun b9 => Vm d m_X10_finds [vR (some b9)] h3 (kV (fun h5 => wpCV h5 (some x0) 9 (fun b8 => Vm d m_X10_isOlder [vR (some b8), vI x1, vI x2] h5 (kI (fun n7 h6 => ((n7 = 0 → K (some (vI 0)) h6) ∧ (¬ (n7 = 0) → K (some (vI 1)) h6))))))))) ∧ (¬ (n4 ≠ 0) → K (some (vI (-2))) h3))))))))))) : Vx (d + 1) m_X10_older 0 0 0 [some (vR (some x0)), some (vI x1), some (vI x2)] [] h K := by
  refine rr_aload_n dX10_older_0 rfl rfl ?_
  refine rr_iload_n dX10_older_1 rfl rfl ?_
  refine rr_callW (bc' := 0) (bs' := 0) (q := (some x0)) (av := [vI x1]) (st := []) mf_X10_isLoan dX10_older_2 rfl q_982 q_984 qs_46 ⟨_, _, rfl⟩ rfl (by decide) (Nat.le_refl _) (Nat.le_refl _) hh (rr_kI fun n2 h1 hh => ?_)
  refine rr_if_eq (tgt := 16) dX10_older_5 rfl (by decide) (fun hc5 => ?_) (fun hc5 => ?_)
  · have hh := hh.1 hc5
    refine rr_bipush dX10_older_16 rfl ⟨by decide, by decide⟩ rfl ?_
    exact rr_iret dX10_older_18 rfl hh
  · have hh := hh.2 hc5
    refine rr_aload_n dX10_older_8 rfl rfl ?_
    refine rr_iload_n dX10_older_9 rfl rfl ?_
    refine rr_callW (bc' := 0) (bs' := 0) (q := (some x0)) (av := [vI x2]) (st := []) mf_X10_isLoan dX10_older_10 rfl q_982 q_984 qs_46 ⟨_, _, rfl⟩ rfl (by decide) (Nat.le_refl _) (Nat.le_refl _) hh (rr_kI fun n4 h3 hh => ?_)
    refine rr_if_ne (tgt := 19) dX10_older_13 rfl (by decide) (fun hc13 => ?_) (fun hc13 => ?_)
    · have hh := hh.1 hc13
      refine rr_aload_n dX10_older_19 rfl rfl ?_
      refine rr_callW (bc' := 0) (bs' := 0) (q := (some x0)) (av := []) (st := []) mf_X10_finds dX10_older_20 rfl q_1067 q_1069 qs_60 ⟨_, _, rfl⟩ rfl (by decide) (Nat.le_refl _) (Nat.le_refl _) hh (rr_kV fun h5 hh => ?_)
      refine rr_aload_n dX10_older_23 rfl rfl ?_
      refine rr_iload_n dX10_older_24 rfl rfl ?_
      refine rr_iload_n dX10_older_25 rfl rfl ?_
      refine rr_callW (bc' := 0) (bs' := 0) (q := (some x0)) (av := [vI x1, vI x2]) (st := []) mf_X10_isOlder dX10_older_26 rfl q_1071 q_1073 qs_61 ⟨_, _, rfl⟩ rfl (by decide) (Nat.le_refl _) (Nat.le_refl _) hh (rr_kI fun n7 h6 hh => ?_)
      refine rr_if_eq (tgt := 36) dX10_older_29 rfl (by decide) (fun hc29 => ?_) (fun hc29 => ?_)
      · have hh := hh.1 hc29
        refine rr_iconst dX10_older_36 rfl ⟨by decide, by decide⟩ ?_
        exact rr_iret dX10_older_37 rfl hh
      · have hh := hh.2 hc29
        refine rr_iconst dX10_older_32 rfl ⟨by decide, by decide⟩ ?_
        refine rr_goto (pc' := 37) dX10_older_33 (by decide) ?_
        exact rr_iret dX10_older_37 rfl hh
    · have hh := hh.2 hc13
      refine rr_bipush dX10_older_16 rfl ⟨by decide, by decide⟩ rfl ?_
      exact rr_iret dX10_older_18 rfl hh
theorem dX10_isBeginning_0 : decode cX10_isBeginning 0 = .ok (.iload_n 1, 1) := by decide +kernel
theorem dX10_isBeginning_1 : decode cX10_isBeginning 1 = .ok (.ifCond .ne 7, 3) := by decide +kernel
theorem dX10_isBeginning_4 : decode cX10_isBeginning 4 = .ok (.iconst 1, 1) := by decide +kernel
theorem dX10_isBeginning_5 : decode cX10_isBeginning 5 = .ok (.goto 4, 3) := by decide +kernel
theorem dX10_isBeginning_8 : decode cX10_isBeginning 8 = .ok (.iconst 0, 1) := by decide +kernel
theorem dX10_isBeginning_9 : decode cX10_isBeginning 9 = .ok (.istore_n 2, 1) := by decide +kernel
theorem dX10_isBeginning_10 : decode cX10_isBeginning 10 = .ok (.iconst 0, 1) := by decide +kernel
theorem dX10_isBeginning_11 : decode cX10_isBeginning 11 = .ok (.istore_n 3, 1) := by decide +kernel
theorem dX10_isBeginning_12 : decode cX10_isBeginning 12 = .ok (.iload_n 3, 1) := by decide +kernel
theorem dX10_isBeginning_13 : decode cX10_isBeginning 13 = .ok (.aload_n 0, 1) := by decide +kernel
theorem dX10_isBeginning_14 : decode cX10_isBeginning 14 = .ok (.getfield 7, 3) := by decide +kernel
theorem dX10_isBeginning_17 : decode cX10_isBeginning 17 = .ok (.iconst 0, 1) := by decide +kernel
theorem dX10_isBeginning_18 : decode cX10_isBeginning 18 = .ok (.iaload, 1) := by decide +kernel
theorem dX10_isBeginning_19 : decode cX10_isBeginning 19 = .ok (.if_icmp .ge 29, 3) := by decide +kernel
theorem dX10_isBeginning_22 : decode cX10_isBeginning 22 = .ok (.iload_n 2, 1) := by decide +kernel
theorem dX10_isBeginning_23 : decode cX10_isBeginning 23 = .ok (.ifCond .ne 13, 3) := by decide +kernel
theorem dX10_isBeginning_26 : decode cX10_isBeginning 26 = .ok (.aload_n 0, 1) := by decide +kernel
theorem dX10_isBeginning_27 : decode cX10_isBeginning 27 = .ok (.iload_n 3, 1) := by decide +kernel
theorem dX10_isBeginning_28 : decode cX10_isBeginning 28 = .ok (.iconst 1, 1) := by decide +kernel
theorem dX10_isBeginning_29 : decode cX10_isBeginning 29 = .ok (.invokevirtual 156, 3) := by decide +kernel
theorem dX10_isBeginning_32 : decode cX10_isBeginning 32 = .ok (.iload_n 1, 1) := by decide +kernel
theorem dX10_isBeginning_33 : decode cX10_isBeginning 33 = .ok (.if_icmp .ne 7, 3) := by decide +kernel
theorem dX10_isBeginning_36 : decode cX10_isBeginning 36 = .ok (.iconst 1, 1) := by decide +kernel
theorem dX10_isBeginning_37 : decode cX10_isBeginning 37 = .ok (.goto 4, 3) := by decide +kernel
theorem dX10_isBeginning_40 : decode cX10_isBeginning 40 = .ok (.iconst 0, 1) := by decide +kernel
theorem dX10_isBeginning_41 : decode cX10_isBeginning 41 = .ok (.istore_n 2, 1) := by decide +kernel
theorem dX10_isBeginning_42 : decode cX10_isBeginning 42 = .ok (.iinc 3 1, 3) := by decide +kernel
theorem dX10_isBeginning_45 : decode cX10_isBeginning 45 = .ok (.goto (-33), 3) := by decide +kernel
theorem dX10_isBeginning_48 : decode cX10_isBeginning 48 = .ok (.iconst 0, 1) := by decide +kernel
theorem dX10_isBeginning_49 : decode cX10_isBeginning 49 = .ok (.istore_n 3, 1) := by decide +kernel
theorem dX10_isBeginning_50 : decode cX10_isBeginning 50 = .ok (.iload_n 3, 1) := by decide +kernel
theorem dX10_isBeginning_51 : decode cX10_isBeginning 51 = .ok (.bipush 16, 2) := by decide +kernel
theorem dX10_isBeginning_53 : decode cX10_isBeginning 53 = .ok (.if_icmp .ge 36, 3) := by decide +kernel
theorem dX10_isBeginning_56 : decode cX10_isBeginning 56 = .ok (.iload_n 2, 1) := by decide +kernel
theorem dX10_isBeginning_57 : decode cX10_isBeginning 57 = .ok (.ifCond .ne 20, 3) := by decide +kernel
theorem dX10_isBeginning_60 : decode cX10_isBeginning 60 = .ok (.aload_n 0, 1) := by decide +kernel
theorem dX10_isBeginning_61 : decode cX10_isBeginning 61 = .ok (.getfield 7, 3) := by decide +kernel
theorem dX10_isBeginning_64 : decode cX10_isBeginning 64 = .ok (.bipush 98, 2) := by decide +kernel
theorem dX10_isBeginning_66 : decode cX10_isBeginning 66 = .ok (.iconst 2, 1) := by decide +kernel
theorem dX10_isBeginning_67 : decode cX10_isBeginning 67 = .ok (.iload_n 3, 1) := by decide +kernel
theorem dX10_isBeginning_68 : decode cX10_isBeginning 68 = .ok (.imul, 1) := by decide +kernel
theorem dX10_isBeginning_69 : decode cX10_isBeginning 69 = .ok (.iadd, 1) := by decide +kernel
theorem dX10_isBeginning_70 : decode cX10_isBeginning 70 = .ok (.iaload, 1) := by decide +kernel
theorem dX10_isBeginning_71 : decode cX10_isBeginning 71 = .ok (.iload_n 1, 1) := by decide +kernel
theorem dX10_isBeginning_72 : decode cX10_isBeginning 72 = .ok (.iconst 1, 1) := by decide +kernel
theorem dX10_isBeginning_73 : decode cX10_isBeginning 73 = .ok (.iadd, 1) := by decide +kernel
theorem dX10_isBeginning_74 : decode cX10_isBeginning 74 = .ok (.if_icmp .ne 7, 3) := by decide +kernel
theorem dX10_isBeginning_77 : decode cX10_isBeginning 77 = .ok (.iconst 1, 1) := by decide +kernel
theorem dX10_isBeginning_78 : decode cX10_isBeginning 78 = .ok (.goto 4, 3) := by decide +kernel
theorem dX10_isBeginning_81 : decode cX10_isBeginning 81 = .ok (.iconst 0, 1) := by decide +kernel
theorem dX10_isBeginning_82 : decode cX10_isBeginning 82 = .ok (.istore_n 2, 1) := by decide +kernel
theorem dX10_isBeginning_83 : decode cX10_isBeginning 83 = .ok (.iinc 3 1, 3) := by decide +kernel
theorem dX10_isBeginning_86 : decode cX10_isBeginning 86 = .ok (.goto (-36), 3) := by decide +kernel
theorem dX10_isBeginning_89 : decode cX10_isBeginning 89 = .ok (.iload_n 2, 1) := by decide +kernel
theorem dX10_isBeginning_90 : decode cX10_isBeginning 90 = .ok (.ireturn, 1) := by decide +kernel
set_option maxRecDepth 100000 in
theorem B_X10_isBeginning_0 {d : Nat} {h : AbH} {K : Option AbV → AbH → Prop} {x0 : Nat} {x1 : Int} (hh : ((x1 ≠ 0 → Vx (d + 1) m_X10_isBeginning 0 0 12 [some (vR (some x0)), some (vI x1), some (vI 0), some (vI 0)] [] h K) ∧ (¬ (x1 ≠ 0) → Vx (d + 1) m_X10_isBeginning 0 0 12 [some (vR (some x0)), some (vI x1), some (vI 1), some (vI 0)] [] h K))) : Vx (d + 1) m_X10_isBeginning 0 0 0 [some (vR (some x0)), some (vI x1)] [] h K := by
  refine Vx.pad 2 [some (vR (some x0)), some (vI x1), none, none] rfl ?_
  refine rr_iload_n dX10_isBeginning_0 rfl rfl ?_
  refine rr_if_ne (tgt := 8) dX10_isBeginning_1 rfl (by decide) (fun hc1 => ?_) (fun hc1 => ?_)
  · have hh := hh.1 hc1
    refine rr_iconst dX10_isBeginning_8 rfl ⟨by decide, by decide⟩ ?_
    refine rr_istore_n (ls' := [some (vR (some x0)), some (vI x1), some (vI 0), none]) dX10_isBeginning_9 rfl (by decide) (fun _ z => by cases z) rfl ?_
    refine rr_iconst dX10_isBeginning_10 rfl ⟨by decide, by decide⟩ ?_
    refine rr_istore_n (ls' := [some (vR (some x0)), some (vI x1), some (vI 0), some (vI 0)]) dX10_isBeginning_11 rfl (by decide) (fun _ z => by cases z) rfl ?_
    exact hh
  · have hh := hh.2 hc1
    refine rr_iconst dX10_isBeginning_4 rfl ⟨by decide, by decide⟩ ?_
    refine rr_goto (pc' := 9) dX10_isBeginning_5 (by decide) ?_
    refine rr_istore_n (ls' := [some (vR (some x0)), some (vI x1), some (vI 1), none]) dX10_isBeginning_9 rfl (by decide) (fun _ z => by cases z) rfl ?_
    refine rr_iconst dX10_isBeginning_10 rfl ⟨by decide, by decide⟩ ?_
    refine rr_istore_n (ls' := [some (vR (some x0)), some (vI x1), some (vI 1), some (vI 0)]) dX10_isBeginning_11 rfl (by decide) (fun _ z => by cases z) rfl ?_
    exact hh
set_option maxRecDepth 100000 in
theorem B_X10_isBeginning_12 {d : Nat} {h : AbH} {K : Option AbV → AbH → Prop} {x0 : Nat} {x1 : Int} {x2 : Int} {x3 : Int} {bc bs : Nat} (hh : wpGR h (some x0) 9 0 (fun r1 => wpLI h r1 0 (fun n2 => ((n2 ≤ x3 → Vx (d + 1) m_X10_isBeginning bc bs 50 [some (vR (some x0)), some (vI x1), some (vI x2), some (vI 0)] [] h K) ∧ (¬ (n2 ≤ x3) → ((x2 ≠ 0 → in32 (x3 + 1) ∧ Vx (d + 1) m_X10_isBeginning bc bs 12 [some (vR (some x0)), some (vI x1), some (vI 1), some (vI (x3 + 1))] [] h K) ∧ (¬ (x2 ≠ 0) → wpCV h (some x0) 9 (fun b8 => Vm d m_X10_lawOf [vR (some b8), vI x3, vI 1] h (kI (fun n5 h4 => ((n5 ≠ x1 → in32 (x3 + 1) ∧ Vx (d + 1) m_X10_isBeginning bc bs 12 [some (vR (some x0)), some (vI x1), some (vI 0), some (vI (x3 + 1))] [] h4 K) ∧ (¬ (n5 ≠ x1) → in32 (x3 + 1) ∧ Vx (d + 1) m_X10_isBeginning bc bs 12 [some (vR (some x0)), some (vI x1), some (vI 1), some (vI (x3 + 1))] [] h4 K)))))))))))) : Vx (d + 1) m_X10_isBeginning bc bs 12 [some (vR (some x0)), some (vI x1), some (vI x2), some (vI x3)] [] h K := by
  refine rr_iload_n dX10_isBeginning_12 rfl rfl ?_
  refine rr_aload_n dX10_isBeginning_13 rfl rfl ?_
  refine rr_getR cf_X10 (j := 0) (by decide) dX10_isBeginning_14 rfl q_754 hh (fun r1 hh => ?_)
  refine rr_iconst dX10_isBeginning_17 rfl ⟨by decide, by decide⟩ ?_
  refine rr_iald dX10_isBeginning_18 rfl hh (fun n2 hh => ?_)
  refine rr_icmp_ge (tgt := 48) dX10_isBeginning_19 rfl (by decide) (fun hc19 => ?_) (fun hc19 => ?_)
  · have hh := hh.1 hc19
    refine rr_iconst dX10_isBeginning_48 rfl ⟨by decide, by decide⟩ ?_
    refine rr_istore_n (ls' := [some (vR (some x0)), some (vI x1), some (vI x2), some (vI 0)]) dX10_isBeginning_49 rfl (by decide) (fun _ z => by cases z) rfl ?_
    exact hh
  · have hh := hh.2 hc19
    refine rr_iload_n dX10_isBeginning_22 rfl rfl ?_
    refine rr_if_ne (tgt := 36) dX10_isBeginning_23 rfl (by decide) (fun hc23 => ?_) (fun hc23 => ?_)
    · have hh := hh.1 hc23
      refine rr_iconst dX10_isBeginning_36 rfl ⟨by decide, by decide⟩ ?_
      refine rr_goto (pc' := 41) dX10_isBeginning_37 (by decide) ?_
      refine rr_istore_n (ls' := [some (vR (some x0)), some (vI x1), some (vI 1), some (vI x3)]) dX10_isBeginning_41 rfl (by decide) (fun _ z => by cases z) rfl ?_
      obtain ⟨hz3, hh⟩ := hh
      refine rr_iinc (ls' := [some (vR (some x0)), some (vI x1), some (vI 1), some (vI (x3 + 1))]) dX10_isBeginning_42 rfl rfl (by decide) (fun _ z => by cases z) hz3 rfl ?_
      refine rr_goto (pc' := 12) dX10_isBeginning_45 (by decide) ?_
      exact hh
    · have hh := hh.2 hc23
      refine rr_aload_n dX10_isBeginning_26 rfl rfl ?_
      refine rr_iload_n dX10_isBeginning_27 rfl rfl ?_
      refine rr_iconst dX10_isBeginning_28 rfl ⟨by decide, by decide⟩ ?_
      refine rr_callW (bc' := bc) (bs' := bs) (q := (some x0)) (av := [vI x3, vI 1]) (st := []) mf_X10_lawOf dX10_isBeginning_29 rfl q_848 q_850 qs_26 ⟨_, _, rfl⟩ rfl (by decide) (Nat.le_refl _) (Nat.le_refl _) hh (rr_kI fun n5 h4 hh => ?_)
      refine rr_iload_n dX10_isBeginning_32 rfl rfl ?_
      refine rr_icmp_ne (tgt := 40) dX10_isBeginning_33 rfl (by decide) (fun hc33 => ?_) (fun hc33 => ?_)
      · have hh := hh.1 hc33
        refine rr_iconst dX10_isBeginning_40 rfl ⟨by decide, by decide⟩ ?_
        refine rr_istore_n (ls' := [some (vR (some x0)), some (vI x1), some (vI 0), some (vI x3)]) dX10_isBeginning_41 rfl (by decide) (fun _ z => by cases z) rfl ?_
        obtain ⟨hz6, hh⟩ := hh
        refine rr_iinc (ls' := [some (vR (some x0)), some (vI x1), some (vI 0), some (vI (x3 + 1))]) dX10_isBeginning_42 rfl rfl (by decide) (fun _ z => by cases z) hz6 rfl ?_
        refine rr_goto (pc' := 12) dX10_isBeginning_45 (by decide) ?_
        exact hh
      · have hh := hh.2 hc33
        refine rr_iconst dX10_isBeginning_36 rfl ⟨by decide, by decide⟩ ?_
        refine rr_goto (pc' := 41) dX10_isBeginning_37 (by decide) ?_
        refine rr_istore_n (ls' := [some (vR (some x0)), some (vI x1), some (vI 1), some (vI x3)]) dX10_isBeginning_41 rfl (by decide) (fun _ z => by cases z) rfl ?_
        obtain ⟨hz7, hh⟩ := hh
        refine rr_iinc (ls' := [some (vR (some x0)), some (vI x1), some (vI 1), some (vI (x3 + 1))]) dX10_isBeginning_42 rfl rfl (by decide) (fun _ z => by cases z) hz7 rfl ?_
        refine rr_goto (pc' := 12) dX10_isBeginning_45 (by decide) ?_
        exact hh
set_option maxRecDepth 100000 in
theorem B_X10_isBeginning_50 {d : Nat} {h : AbH} {K : Option AbV → AbH → Prop} {x0 : Nat} {x1 : Int} {x2 : Int} {x3 : Int} {bc bs : Nat} (hh : ((16 ≤ x3 → ab_z01 x2 ∧ K (some (vI x2)) h) ∧ (¬ (16 ≤ x3) → ((x2 ≠ 0 → in32 (x3 + 1) ∧ Vx (d + 1) m_X10_isBeginning bc bs 50 [some (vR (some x0)), some (vI x1), some (vI 1), some (vI (x3 + 1))] [] h K) ∧ (¬ (x2 ≠ 0) → wpGR h (some x0) 9 0 (fun r3 => in32 (2 * x3) ∧ in32 (98 + (2 * x3)) ∧ wpLI h r3 (98 + (2 * x3)) (fun n6 => in32 (x1 + 1) ∧ ((n6 ≠ (x1 + 1) → in32 (x3 + 1) ∧ Vx (d + 1) m_X10_isBeginning bc bs 50 [some (vR (some x0)), some (vI x1), some (vI 0), some (vI (x3 + 1))] [] h K) ∧ (¬ (n6 ≠ (x1 + 1)) → in32 (x3 + 1) ∧ Vx (d + 1) m_X10_isBeginning bc bs 50 [some (vR (some x0)), some (vI x1), some (vI 1), some (vI (x3 + 1))] [] h K))))))))) : Vx (d + 1) m_X10_isBeginning bc bs 50 [some (vR (some x0)), some (vI x1), some (vI x2), some (vI x3)] [] h K := by
  refine rr_iload_n dX10_isBeginning_50 rfl rfl ?_
  refine rr_bipush dX10_isBeginning_51 rfl ⟨by decide, by decide⟩ rfl ?_
  refine rr_icmp_ge (tgt := 89) dX10_isBeginning_53 rfl (by decide) (fun hc53 => ?_) (fun hc53 => ?_)
  · have hh := hh.1 hc53
    refine rr_iload_n dX10_isBeginning_89 rfl rfl ?_
    obtain ⟨hz1, hh⟩ := hh
    exact rr_zret dX10_isBeginning_90 rfl (zn_b hz1) hh
  · have hh := hh.2 hc53
    refine rr_iload_n dX10_isBeginning_56 rfl rfl ?_
    refine rr_if_ne (tgt := 77) dX10_isBeginning_57 rfl (by decide) (fun hc57 => ?_) (fun hc57 => ?_)
    · have hh := hh.1 hc57
      refine rr_iconst dX10_isBeginning_77 rfl ⟨by decide, by decide⟩ ?_
      refine rr_goto (pc' := 82) dX10_isBeginning_78 (by decide) ?_
      refine rr_istore_n (ls' := [some (vR (some x0)), some (vI x1), some (vI 1), some (vI x3)]) dX10_isBeginning_82 rfl (by decide) (fun _ z => by cases z) rfl ?_
      obtain ⟨hz2, hh⟩ := hh
      refine rr_iinc (ls' := [some (vR (some x0)), some (vI x1), some (vI 1), some (vI (x3 + 1))]) dX10_isBeginning_83 rfl rfl (by decide) (fun _ z => by cases z) hz2 rfl ?_
      refine rr_goto (pc' := 50) dX10_isBeginning_86 (by decide) ?_
      exact hh
    · have hh := hh.2 hc57
      refine rr_aload_n dX10_isBeginning_60 rfl rfl ?_
      refine rr_getR cf_X10 (j := 0) (by decide) dX10_isBeginning_61 rfl q_754 hh (fun r3 hh => ?_)
      refine rr_bipush dX10_isBeginning_64 rfl ⟨by decide, by decide⟩ rfl ?_
      refine rr_iconst dX10_isBeginning_66 rfl ⟨by decide, by decide⟩ ?_
      refine rr_iload_n dX10_isBeginning_67 rfl rfl ?_
      obtain ⟨hz4, hh⟩ := hh
      refine rr_imul dX10_isBeginning_68 rfl hz4 ?_
      obtain ⟨hz5, hh⟩ := hh
      refine rr_iadd dX10_isBeginning_69 rfl hz5 ?_
      refine rr_iald dX10_isBeginning_70 rfl hh (fun n6 hh => ?_)
      refine rr_iload_n dX10_isBeginning_71 rfl rfl ?_
      refine rr_iconst dX10_isBeginning_72 rfl ⟨by decide, by decide⟩ ?_
      obtain ⟨hz7, hh⟩ := hh
      refine rr_iadd dX10_isBeginning_73 rfl hz7 ?_
      refine rr_icmp_ne (tgt := 81) dX10_isBeginning_74 rfl (by decide) (fun hc74 => ?_) (fun hc74 => ?_)
      · have hh := hh.1 hc74
        refine rr_iconst dX10_isBeginning_81 rfl ⟨by decide, by decide⟩ ?_
        refine rr_istore_n (ls' := [some (vR (some x0)), some (vI x1), some (vI 0), some (vI x3)]) dX10_isBeginning_82 rfl (by decide) (fun _ z => by cases z) rfl ?_
        obtain ⟨hz8, hh⟩ := hh
        refine rr_iinc (ls' := [some (vR (some x0)), some (vI x1), some (vI 0), some (vI (x3 + 1))]) dX10_isBeginning_83 rfl rfl (by decide) (fun _ z => by cases z) hz8 rfl ?_
        refine rr_goto (pc' := 50) dX10_isBeginning_86 (by decide) ?_
        exact hh
      · have hh := hh.2 hc74
        refine rr_iconst dX10_isBeginning_77 rfl ⟨by decide, by decide⟩ ?_
        refine rr_goto (pc' := 82) dX10_isBeginning_78 (by decide) ?_
        refine rr_istore_n (ls' := [some (vR (some x0)), some (vI x1), some (vI 1), some (vI x3)]) dX10_isBeginning_82 rfl (by decide) (fun _ z => by cases z) rfl ?_
        obtain ⟨hz9, hh⟩ := hh
        refine rr_iinc (ls' := [some (vR (some x0)), some (vI x1), some (vI 1), some (vI (x3 + 1))]) dX10_isBeginning_83 rfl rfl (by decide) (fun _ z => by cases z) hz9 rfl ?_
        refine rr_goto (pc' := 50) dX10_isBeginning_86 (by decide) ?_
        exact hh
theorem dX10_arrives_0 : decode cX10_arrives 0 = .ok (.aload_n 0, 1) := by decide +kernel
theorem dX10_arrives_1 : decode cX10_arrives 1 = .ok (.iload_n 1, 1) := by decide +kernel
theorem dX10_arrives_2 : decode cX10_arrives 2 = .ok (.invokevirtual 179, 3) := by decide +kernel
theorem dX10_arrives_5 : decode cX10_arrives 5 = .ok (.iload_n 2, 1) := by decide +kernel
theorem dX10_arrives_6 : decode cX10_arrives 6 = .ok (.istore 6, 2) := by decide +kernel
theorem dX10_arrives_8 : decode cX10_arrives 8 = .ok (.iconst 0, 1) := by decide +kernel
theorem dX10_arrives_9 : decode cX10_arrives 9 = .ok (.istore 7, 2) := by decide +kernel
theorem dX10_arrives_11 : decode cX10_arrives 11 = .ok (.iconst 0, 1) := by decide +kernel
theorem dX10_arrives_12 : decode cX10_arrives 12 = .ok (.istore 8, 2) := by decide +kernel
theorem dX10_arrives_14 : decode cX10_arrives 14 = .ok (.iload 8, 2) := by decide +kernel
theorem dX10_arrives_16 : decode cX10_arrives 16 = .ok (.iload 5, 2) := by decide +kernel
theorem dX10_arrives_18 : decode cX10_arrives 18 = .ok (.if_icmp .ge 67, 3) := by decide +kernel
theorem dX10_arrives_21 : decode cX10_arrives 21 = .ok (.aload_n 0, 1) := by decide +kernel
theorem dX10_arrives_22 : decode cX10_arrives 22 = .ok (.getfield 44, 3) := by decide +kernel
theorem dX10_arrives_25 : decode cX10_arrives 25 = .ok (.iload 8, 2) := by decide +kernel
theorem dX10_arrives_27 : decode cX10_arrives 27 = .ok (.iaload, 1) := by decide +kernel
theorem dX10_arrives_28 : decode cX10_arrives 28 = .ok (.iconst 4, 1) := by decide +kernel
theorem dX10_arrives_29 : decode cX10_arrives 29 = .ok (.idiv, 1) := by decide +kernel
theorem dX10_arrives_30 : decode cX10_arrives 30 = .ok (.istore 9, 2) := by decide +kernel
theorem dX10_arrives_32 : decode cX10_arrives 32 = .ok (.aload_n 0, 1) := by decide +kernel
theorem dX10_arrives_33 : decode cX10_arrives 33 = .ok (.iload 6, 2) := by decide +kernel
theorem dX10_arrives_35 : decode cX10_arrives 35 = .ok (.aload_n 0, 1) := by decide +kernel
theorem dX10_arrives_36 : decode cX10_arrives 36 = .ok (.getfield 44, 3) := by decide +kernel
theorem dX10_arrives_39 : decode cX10_arrives 39 = .ok (.iload 8, 2) := by decide +kernel
theorem dX10_arrives_41 : decode cX10_arrives 41 = .ok (.iaload, 1) := by decide +kernel
theorem dX10_arrives_42 : decode cX10_arrives 42 = .ok (.iconst 4, 1) := by decide +kernel
theorem dX10_arrives_43 : decode cX10_arrives 43 = .ok (.irem, 1) := by decide +kernel
theorem dX10_arrives_44 : decode cX10_arrives 44 = .ok (.iload 9, 2) := by decide +kernel
theorem dX10_arrives_46 : decode cX10_arrives 46 = .ok (.invokevirtual 187, 3) := by decide +kernel
theorem dX10_arrives_49 : decode cX10_arrives 49 = .ok (.ifCond .ne 5, 3) := by decide +kernel
theorem dX10_arrives_52 : decode cX10_arrives 52 = .ok (.iconst 0, 1) := by decide +kernel
theorem dX10_arrives_53 : decode cX10_arrives 53 = .ok (.ireturn, 1) := by decide +kernel
theorem dX10_arrives_54 : decode cX10_arrives 54 = .ok (.aload_n 0, 1) := by decide +kernel
theorem dX10_arrives_55 : decode cX10_arrives 55 = .ok (.iload 6, 2) := by decide +kernel
theorem dX10_arrives_57 : decode cX10_arrives 57 = .ok (.iload 7, 2) := by decide +kernel
theorem dX10_arrives_59 : decode cX10_arrives 59 = .ok (.iload 9, 2) := by decide +kernel
theorem dX10_arrives_61 : decode cX10_arrives 61 = .ok (.invokevirtual 183, 3) := by decide +kernel
theorem dX10_arrives_64 : decode cX10_arrives 64 = .ok (.iload 9, 2) := by decide +kernel
theorem dX10_arrives_66 : decode cX10_arrives 66 = .ok (.istore 7, 2) := by decide +kernel
theorem dX10_arrives_68 : decode cX10_arrives 68 = .ok (.aload_n 0, 1) := by decide +kernel
theorem dX10_arrives_69 : decode cX10_arrives 69 = .ok (.getfield 44, 3) := by decide +kernel
theorem dX10_arrives_72 : decode cX10_arrives 72 = .ok (.iload 8, 2) := by decide +kernel
theorem dX10_arrives_74 : decode cX10_arrives 74 = .ok (.iaload, 1) := by decide +kernel
theorem dX10_arrives_75 : decode cX10_arrives 75 = .ok (.iconst 4, 1) := by decide +kernel
theorem dX10_arrives_76 : decode cX10_arrives 76 = .ok (.irem, 1) := by decide +kernel
theorem dX10_arrives_77 : decode cX10_arrives 77 = .ok (.istore 6, 2) := by decide +kernel
theorem dX10_arrives_79 : decode cX10_arrives 79 = .ok (.iinc 8 1, 3) := by decide +kernel
theorem dX10_arrives_82 : decode cX10_arrives 82 = .ok (.goto (-68), 3) := by decide +kernel
theorem dX10_arrives_85 : decode cX10_arrives 85 = .ok (.aload_n 0, 1) := by decide +kernel
theorem dX10_arrives_86 : decode cX10_arrives 86 = .ok (.iload 6, 2) := by decide +kernel
theorem dX10_arrives_88 : decode cX10_arrives 88 = .ok (.iload 7, 2) := by decide +kernel
theorem dX10_arrives_90 : decode cX10_arrives 90 = .ok (.bipush 99, 2) := by decide +kernel
theorem dX10_arrives_92 : decode cX10_arrives 92 = .ok (.invokevirtual 183, 3) := by decide +kernel
theorem dX10_arrives_95 : decode cX10_arrives 95 = .ok (.iload 6, 2) := by decide +kernel
theorem dX10_arrives_97 : decode cX10_arrives 97 = .ok (.iload 4, 2) := by decide +kernel
theorem dX10_arrives_99 : decode cX10_arrives 99 = .ok (.if_icmp .ne 15, 3) := by decide +kernel
theorem dX10_arrives_102 : decode cX10_arrives 102 = .ok (.aload_n 0, 1) := by decide +kernel
theorem dX10_arrives_103 : decode cX10_arrives 103 = .ok (.iload_n 3, 1) := by decide +kernel
theorem dX10_arrives_104 : decode cX10_arrives 104 = .ok (.invokevirtual 194, 3) := by decide +kernel
theorem dX10_arrives_107 : decode cX10_arrives 107 = .ok (.ifCond .eq 7, 3) := by decide +kernel
theorem dX10_arrives_110 : decode cX10_arrives 110 = .ok (.iconst 1, 1) := by decide +kernel
theorem dX10_arrives_111 : decode cX10_arrives 111 = .ok (.goto 4, 3) := by decide +kernel
theorem dX10_arrives_114 : decode cX10_arrives 114 = .ok (.iconst 0, 1) := by decide +kernel
theorem dX10_arrives_115 : decode cX10_arrives 115 = .ok (.ireturn, 1) := by decide +kernel
set_option maxRecDepth 100000 in
theorem B_X10_arrives_0 {d : Nat} {h : AbH} {K : Option AbV → AbH → Prop} {x0 : Nat} {x1 : Int} {x2 : Int} {x3 : Int} {x4 : Int} {x5 : Int} (hh : wpCV h (some x0) 9 (fun b2 => Vm d m_X10_takesWord [vR (some b2), vI x1] h (kV (fun h1 => Vx (d + 1) m_X10_arrives 0 0 14 [some (vR (some x0)), some (vI x1), some (vI x2), some (vI x3), some (vI x4), some (vI x5), some (vI x2), some (vI 0), some (vI 0), none] [] h1 K)))) : Vx (d + 1) m_X10_arrives 0 0 0 [some (vR (some x0)), some (vI x1), some (vI x2), some (vI x3), some (vI x4), some (vI x5)] [] h K := by
  refine Vx.pad 4 [some (vR (some x0)), some (vI x1), some (vI x2), some (vI x3), some (vI x4), some (vI x5), none, none, none, none] rfl ?_
  refine rr_aload_n dX10_arrives_0 rfl rfl ?_
  refine rr_iload_n dX10_arrives_1 rfl rfl ?_
  refine rr_callW (bc' := 0) (bs' := 0) (q := (some x0)) (av := [vI x1]) (st := []) mf_X10_takesWord dX10_arrives_2 rfl q_990 q_992 qs_48 ⟨_, _, rfl⟩ rfl (by decide) (Nat.le_refl _) (Nat.le_refl _) hh (rr_kV fun h1 hh => ?_)
  refine rr_iload_n dX10_arrives_5 rfl rfl ?_
  refine rr_istore (ls' := [some (vR (some x0)), some (vI x1), some (vI x2), some (vI x3), some (vI x4), some (vI x5), some (vI x2), none, none, none]) dX10_arrives_6 rfl (by decide) (fun _ z => by cases z) rfl ?_
  refine rr_iconst dX10_arrives_8 rfl ⟨by decide, by decide⟩ ?_
  refine rr_istore (ls' := [some (vR (some x0)), some (vI x1), some (vI x2), some (vI x3), some (vI x4), some (vI x5), some (vI x2), some (vI 0), none, none]) dX10_arrives_9 rfl (by decide) (fun _ z => by cases z) rfl ?_
  refine rr_iconst dX10_arrives_11 rfl ⟨by decide, by decide⟩ ?_
  refine rr_istore (ls' := [some (vR (some x0)), some (vI x1), some (vI x2), some (vI x3), some (vI x4), some (vI x5), some (vI x2), some (vI 0), some (vI 0), none]) dX10_arrives_12 rfl (by decide) (fun _ z => by cases z) rfl ?_
  exact hh
set_option maxRecDepth 100000 in
theorem B_X10_arrives_14 {d : Nat} {h : AbH} {K : Option AbV → AbH → Prop} {x0 : Nat} {x1 : Int} {x2 : Int} {x3 : Int} {x4 : Int} {x5 : Int} {x6 : Int} {x7 : Int} {x8 : Int} {bc bs : Nat} (hh : ((x5 ≤ x8 → wpCV h (some x0) 9 (fun b5 => Vm d m_X10_goes [vR (some b5), vI x6, vI x7, vI 99] h (kV (fun h1 => ((x6 ≠ x4 → K (some (vI 0)) h1) ∧ (¬ (x6 ≠ x4) → wpCV h1 (some x0) 9 (fun b4 => Vm d m_X10_isEnd [vR (some b4), vI x3] h1 (kI (fun n3 h2 => ((n3 = 0 → K (some (vI 0)) h2) ∧ (¬ (n3 = 0) → K (some (vI 1)) h2))))))))))) ∧ (¬ (x5 ≤ x8) → wpGR h (some x0) 9 20 (fun r6 => wpLI h r6 x8 (fun n7 => (0 ≤ n7 ∧ (0 : Int) < 4) ∧ wpGR h (some x0) 9 20 (fun r9 => wpLI h r9 x8 (fun n10 => (0 ≤ n10 ∧ (0 : Int) < 4) ∧ wpCV h (some x0) 9 (fun b20 => Vm d m_X10_isMet [vR (some b20), vI x6, vI (n10 % 4), vI (n7 / 4)] h (kI (fun n13 h12 => ((n13 ≠ 0 → wpCV h12 (some x0) 9 (fun b19 => Vm d m_X10_goes [vR (some b19), vI x6, vI x7, vI (n7 / 4)] h12 (kV (fun h14 => wpGR h14 (some x0) 9 20 (fun r15 => wpLI h14 r15 x8 (fun n16 => (0 ≤ n16 ∧ (0 : Int) < 4) ∧ in32 (x8 + 1) ∧ Vx (d + 1) m_X10_arrives bc bs 14 [some (vR (some x0)), some (vI x1), some (vI x2), some (vI x3), some (vI x4), some (vI x5), some (vI (n16 % 4)), some (vI (n7 / 4)), some (vI (x8 + 1)), none] [] h14 K)))))) ∧ (¬ (n13 ≠ 0) → K (some (vI 0)) h12)))))))))))) : Vx (d + 1) m_X10_arrives bc bs 14 [some (vR (some x0)), some (vI x1), some (vI x2), some (vI x3), some (vI x4), some (vI x5), some (vI x6), some (vI x7), some (vI x8), none] [] h K := by
  refine rr_iload dX10_arrives_14 rfl rfl ?_
  refine rr_iload dX10_arrives_16 rfl rfl ?_
  refine rr_icmp_ge (tgt := 85) dX10_arrives_18 rfl (by decide) (fun hc18 => ?_) (fun hc18 => ?_)
  · have hh := hh.1 hc18
    refine rr_aload_n dX10_arrives_85 rfl rfl ?_
    refine rr_iload dX10_arrives_86 rfl rfl ?_
    refine rr_iload dX10_arrives_88 rfl rfl ?_
    refine rr_bipush dX10_arrives_90 rfl ⟨by decide, by decide⟩ rfl ?_
    refine rr_callW (bc' := bc) (bs' := bs) (q := (some x0)) (av := [vI x6, vI x7, vI 99]) (st := []) mf_X10_goes dX10_arrives_92 rfl q_994 q_996 qs_49 ⟨_, _, rfl⟩ rfl (by decide) (Nat.le_refl _) (Nat.le_refl _) hh (rr_kV fun h1 hh => ?_)
    refine rr_iload dX10_arrives_95 rfl rfl ?_
    refine rr_iload dX10_arrives_97 rfl rfl ?_
    refine rr_icmp_ne (tgt := 114) dX10_arrives_99 rfl (by decide) (fun hc99 => ?_) (fun hc99 => ?_)
    · have hh := hh.1 hc99
      refine rr_iconst dX10_arrives_114 rfl ⟨by decide, by decide⟩ ?_
      exact rr_zret dX10_arrives_115 rfl rfl hh
    · have hh := hh.2 hc99
      refine rr_aload_n dX10_arrives_102 rfl rfl ?_
      refine rr_iload_n dX10_arrives_103 rfl rfl ?_
      refine rr_callW (bc' := bc) (bs' := bs) (q := (some x0)) (av := [vI x3]) (st := []) mf_X10_isEnd dX10_arrives_104 rfl q_1055 q_1057 qs_57 ⟨_, _, rfl⟩ rfl (by decide) (Nat.le_refl _) (Nat.le_refl _) hh (rr_kI fun n3 h2 hh => ?_)
      refine rr_if_eq (tgt := 114) dX10_arrives_107 rfl (by decide) (fun hc107 => ?_) (fun hc107 => ?_)
      · have hh := hh.1 hc107
        refine rr_iconst dX10_arrives_114 rfl ⟨by decide, by decide⟩ ?_
        exact rr_zret dX10_arrives_115 rfl rfl hh
      · have hh := hh.2 hc107
        refine rr_iconst dX10_arrives_110 rfl ⟨by decide, by decide⟩ ?_
        refine rr_goto (pc' := 115) dX10_arrives_111 (by decide) ?_
        exact rr_zret dX10_arrives_115 rfl rfl hh
  · have hh := hh.2 hc18
    refine rr_aload_n dX10_arrives_21 rfl rfl ?_
    refine rr_getR cf_X10 (j := 20) (by decide) dX10_arrives_22 rfl q_774 hh (fun r6 hh => ?_)
    refine rr_iload dX10_arrives_25 rfl rfl ?_
    refine rr_iald dX10_arrives_27 rfl hh (fun n7 hh => ?_)
    refine rr_iconst dX10_arrives_28 rfl ⟨by decide, by decide⟩ ?_
    obtain ⟨hz8, hh⟩ := hh
    refine rr_idiv dX10_arrives_29 rfl hz8 ?_
    refine rr_istore (ls' := [some (vR (some x0)), some (vI x1), some (vI x2), some (vI x3), some (vI x4), some (vI x5), some (vI x6), some (vI x7), some (vI x8), some (vI (n7 / 4))]) dX10_arrives_30 rfl (by decide) (fun _ z => by cases z) rfl ?_
    refine rr_aload_n dX10_arrives_32 rfl rfl ?_
    refine rr_iload dX10_arrives_33 rfl rfl ?_
    refine rr_aload_n dX10_arrives_35 rfl rfl ?_
    refine rr_getR cf_X10 (j := 20) (by decide) dX10_arrives_36 rfl q_774 hh (fun r9 hh => ?_)
    refine rr_iload dX10_arrives_39 rfl rfl ?_
    refine rr_iald dX10_arrives_41 rfl hh (fun n10 hh => ?_)
    refine rr_iconst dX10_arrives_42 rfl ⟨by decide, by decide⟩ ?_
    obtain ⟨hz11, hh⟩ := hh
    refine rr_irem dX10_arrives_43 rfl hz11 ?_
    refine rr_iload dX10_arrives_44 rfl rfl ?_
    refine rr_callW (bc' := bc) (bs' := bs) (q := (some x0)) (av := [vI x6, vI (n10 % 4), vI (n7 / 4)]) (st := []) mf_X10_isMet dX10_arrives_46 rfl q_1051 q_1053 qs_56 ⟨_, _, rfl⟩ rfl (by decide) (Nat.le_refl _) (Nat.le_refl _) hh (rr_kI fun n13 h12 hh => ?_)
    refine rr_if_ne (tgt := 54) dX10_arrives_49 rfl (by decide) (fun hc49 => ?_) (fun hc49 => ?_)
    · have hh := hh.1 hc49
      refine rr_aload_n dX10_arrives_54 rfl rfl ?_
      refine rr_iload dX10_arrives_55 rfl rfl ?_
      refine rr_iload dX10_arrives_57 rfl rfl ?_
      refine rr_iload dX10_arrives_59 rfl rfl ?_
      refine rr_callW (bc' := bc) (bs' := bs) (q := (some x0)) (av := [vI x6, vI x7, vI (n7 / 4)]) (st := []) mf_X10_goes dX10_arrives_61 rfl q_994 q_996 qs_49 ⟨_, _, rfl⟩ rfl (by decide) (Nat.le_refl _) (Nat.le_refl _) hh (rr_kV fun h14 hh => ?_)
      refine rr_iload dX10_arrives_64 rfl rfl ?_
      refine rr_istore (ls' := [some (vR (some x0)), some (vI x1), some (vI x2), some (vI x3), some (vI x4), some (vI x5), some (vI x6), some (vI (n7 / 4)), some (vI x8), some (vI (n7 / 4))]) dX10_arrives_66 rfl (by decide) (fun _ z => by cases z) rfl ?_
      refine rr_aload_n dX10_arrives_68 rfl rfl ?_
      refine rr_getR cf_X10 (j := 20) (by decide) dX10_arrives_69 rfl q_774 hh (fun r15 hh => ?_)
      refine rr_iload dX10_arrives_72 rfl rfl ?_
      refine rr_iald dX10_arrives_74 rfl hh (fun n16 hh => ?_)
      refine rr_iconst dX10_arrives_75 rfl ⟨by decide, by decide⟩ ?_
      obtain ⟨hz17, hh⟩ := hh
      refine rr_irem dX10_arrives_76 rfl hz17 ?_
      refine rr_istore (ls' := [some (vR (some x0)), some (vI x1), some (vI x2), some (vI x3), some (vI x4), some (vI x5), some (vI (n16 % 4)), some (vI (n7 / 4)), some (vI x8), some (vI (n7 / 4))]) dX10_arrives_77 rfl (by decide) (fun _ z => by cases z) rfl ?_
      obtain ⟨hz18, hh⟩ := hh
      refine rr_iinc (ls' := [some (vR (some x0)), some (vI x1), some (vI x2), some (vI x3), some (vI x4), some (vI x5), some (vI (n16 % 4)), some (vI (n7 / 4)), some (vI (x8 + 1)), some (vI (n7 / 4))]) dX10_arrives_79 rfl rfl (by decide) (fun _ z => by cases z) hz18 rfl ?_
      refine rr_goto (pc' := 14) dX10_arrives_82 (by decide) ?_
      exact Vx.forget (ls' := [some (vR (some x0)), some (vI x1), some (vI x2), some (vI x3), some (vI x4), some (vI x5), some (vI (n16 % 4)), some (vI (n7 / 4)), some (vI (x8 + 1)), none]) (And.intro rfl (And.intro rfl (And.intro rfl (And.intro rfl (And.intro rfl (And.intro rfl (And.intro rfl (And.intro rfl (And.intro rfl trivial))))))))) hh
    · have hh := hh.2 hc49
      refine rr_iconst dX10_arrives_52 rfl ⟨by decide, by decide⟩ ?_
      exact rr_zret dX10_arrives_53 rfl rfl hh
theorem dX10_findsDates_0 : decode cX10_findsDates 0 = .ok (.aload_n 0, 1) := by decide +kernel
theorem dX10_findsDates_1 : decode cX10_findsDates 1 = .ok (.iconst 0, 1) := by decide +kernel
theorem dX10_findsDates_2 : decode cX10_findsDates 2 = .ok (.putfield 261, 3) := by decide +kernel
theorem dX10_findsDates_5 : decode cX10_findsDates 5 = .ok (.iconst 0, 1) := by decide +kernel
theorem dX10_findsDates_6 : decode cX10_findsDates 6 = .ok (.istore_n 1, 1) := by decide +kernel
theorem dX10_findsDates_7 : decode cX10_findsDates 7 = .ok (.iload_n 1, 1) := by decide +kernel
theorem dX10_findsDates_8 : decode cX10_findsDates 8 = .ok (.bipush 99, 2) := by decide +kernel
theorem dX10_findsDates_10 : decode cX10_findsDates 10 = .ok (.if_icmp .gt 37, 3) := by decide +kernel
theorem dX10_findsDates_13 : decode cX10_findsDates 13 = .ok (.aload_n 0, 1) := by decide +kernel
theorem dX10_findsDates_14 : decode cX10_findsDates 14 = .ok (.iload_n 1, 1) := by decide +kernel
theorem dX10_findsDates_15 : decode cX10_findsDates 15 = .ok (.invokevirtual 264, 3) := by decide +kernel
theorem dX10_findsDates_18 : decode cX10_findsDates 18 = .ok (.ifCond .eq 23, 3) := by decide +kernel
theorem dX10_findsDates_21 : decode cX10_findsDates 21 = .ok (.aload_n 0, 1) := by decide +kernel
theorem dX10_findsDates_22 : decode cX10_findsDates 22 = .ok (.getfield 47, 3) := by decide +kernel
theorem dX10_findsDates_25 : decode cX10_findsDates 25 = .ok (.aload_n 0, 1) := by decide +kernel
theorem dX10_findsDates_26 : decode cX10_findsDates 26 = .ok (.getfield 261, 3) := by decide +kernel
theorem dX10_findsDates_29 : decode cX10_findsDates 29 = .ok (.iload_n 1, 1) := by decide +kernel
theorem dX10_findsDates_30 : decode cX10_findsDates 30 = .ok (.iastore, 1) := by decide +kernel
theorem dX10_findsDates_31 : decode cX10_findsDates 31 = .ok (.aload_n 0, 1) := by decide +kernel
theorem dX10_findsDates_32 : decode cX10_findsDates 32 = .ok (.dup, 1) := by decide +kernel
theorem dX10_findsDates_33 : decode cX10_findsDates 33 = .ok (.getfield 261, 3) := by decide +kernel
theorem dX10_findsDates_36 : decode cX10_findsDates 36 = .ok (.iconst 1, 1) := by decide +kernel
theorem dX10_findsDates_37 : decode cX10_findsDates 37 = .ok (.iadd, 1) := by decide +kernel
theorem dX10_findsDates_38 : decode cX10_findsDates 38 = .ok (.putfield 261, 3) := by decide +kernel
theorem dX10_findsDates_41 : decode cX10_findsDates 41 = .ok (.iinc 1 1, 3) := by decide +kernel
theorem dX10_findsDates_44 : decode cX10_findsDates 44 = .ok (.goto (-37), 3) := by decide +kernel
theorem dX10_findsDates_47 : decode cX10_findsDates 47 = .ok (.return_, 1) := by decide +kernel
set_option maxRecDepth 100000 in
theorem B_X10_findsDates_0 {d : Nat} {h : AbH} {K : Option AbV → AbH → Prop} {x0 : Nat} (hh : wpP h (some x0) 9 22 (vI 0) (fun h1 => Vx (d + 1) m_X10_findsDates 0 0 7 [some (vR (some x0)), some (vI 0)] [] h1 K)) : Vx (d + 1) m_X10_findsDates 0 0 0 [some (vR (some x0))] [] h K := by
  refine Vx.pad 1 [some (vR (some x0)), none] rfl ?_
  refine rr_aload_n dX10_findsDates_0 rfl rfl ?_
  refine rr_iconst dX10_findsDates_1 rfl ⟨by decide, by decide⟩ ?_
  refine rr_put cf_X10 (j := 22) (by decide) dX10_findsDates_2 rfl q_776 rfl (fty := .int) (by decide +kernel) rfl rfl hh (fun h1 hh => ?_)
  refine rr_iconst dX10_findsDates_5 rfl ⟨by decide, by decide⟩ ?_
  refine rr_istore_n (ls' := [some (vR (some x0)), some (vI 0)]) dX10_findsDates_6 rfl (by decide) (fun _ z => by cases z) rfl ?_
  exact hh
set_option maxRecDepth 100000 in
theorem B_X10_findsDates_7 {d : Nat} {h : AbH} {K : Option AbV → AbH → Prop} {x0 : Nat} {x1 : Int} {bc bs : Nat} (hh : ((99 < x1 → K none h) ∧ (¬ (99 < x1) → wpCV h (some x0) 9 (fun b11 => Vm d m_X10_isBeginning [vR (some b11), vI x1] h (kI (fun n2 h1 => ((n2 = 0 → in32 (x1 + 1) ∧ Vx (d + 1) m_X10_findsDates bc bs 7 [some (vR (some x0)), some (vI (x1 + 1))] [] h1 K) ∧ (¬ (n2 = 0) → wpGR h1 (some x0) 9 21 (fun r4 => wpGI h1 (some x0) 9 22 (fun n5 => wpSI h1 r4 n5 x1 (fun h6 => wpGI h6 (some x0) 9 22 (fun n7 => in32 (n7 + 1) ∧ wpP h6 (some x0) 9 22 (vI (n7 + 1)) (fun h9 => in32 (x1 + 1) ∧ Vx (d + 1) m_X10_findsDates bc bs 7 [some (vR (some x0)), some (vI (x1 + 1))] [] h9 K))))))))))))) : Vx (d + 1) m_X10_findsDates bc bs 7 [some (vR (some x0)), some (vI x1)] [] h K := by
  refine rr_iload_n dX10_findsDates_7 rfl rfl ?_
  refine rr_bipush dX10_findsDates_8 rfl ⟨by decide, by decide⟩ rfl ?_
  refine rr_icmp_gt (tgt := 47) dX10_findsDates_10 rfl (by decide) (fun hc10 => ?_) (fun hc10 => ?_)
  · have hh := hh.1 hc10
    exact rr_vret dX10_findsDates_47 rfl hh
  · have hh := hh.2 hc10
    refine rr_aload_n dX10_findsDates_13 rfl rfl ?_
    refine rr_iload_n dX10_findsDates_14 rfl rfl ?_
    refine rr_callW (bc' := bc) (bs' := bs) (q := (some x0)) (av := [vI x1]) (st := []) mf_X10_isBeginning dX10_findsDates_15 rfl q_1119 q_1121 qs_66 ⟨_, _, rfl⟩ rfl (by decide) (Nat.le_refl _) (Nat.le_refl _) hh (rr_kI fun n2 h1 hh => ?_)
    refine rr_if_eq (tgt := 41) dX10_findsDates_18 rfl (by decide) (fun hc18 => ?_) (fun hc18 => ?_)
    · have hh := hh.1 hc18
      obtain ⟨hz3, hh⟩ := hh
      refine rr_iinc (ls' := [some (vR (some x0)), some (vI (x1 + 1))]) dX10_findsDates_41 rfl rfl (by decide) (fun _ z => by cases z) hz3 rfl ?_
      refine rr_goto (pc' := 7) dX10_findsDates_44 (by decide) ?_
      exact hh
    · have hh := hh.2 hc18
      refine rr_aload_n dX10_findsDates_21 rfl rfl ?_
      refine rr_getR cf_X10 (j := 21) (by decide) dX10_findsDates_22 rfl q_775 hh (fun r4 hh => ?_)
      refine rr_aload_n dX10_findsDates_25 rfl rfl ?_
      refine rr_getI cf_X10 (j := 22) (by decide) dX10_findsDates_26 rfl q_776 hh (fun n5 hh => ?_)
      refine rr_iload_n dX10_findsDates_29 rfl rfl ?_
      refine rr_iast dX10_findsDates_30 rfl hh (fun h6 hh => ?_)
      refine rr_aload_n dX10_findsDates_31 rfl rfl ?_
      refine rr_dup dX10_findsDates_32 rfl rfl ?_
      refine rr_getI cf_X10 (j := 22) (by decide) dX10_findsDates_33 rfl q_776 hh (fun n7 hh => ?_)
      refine rr_iconst dX10_findsDates_36 rfl ⟨by decide, by decide⟩ ?_
      obtain ⟨hz8, hh⟩ := hh
      refine rr_iadd dX10_findsDates_37 rfl hz8 ?_
      refine rr_put cf_X10 (j := 22) (by decide) dX10_findsDates_38 rfl q_776 rfl (fty := .int) (by decide +kernel) rfl rfl hh (fun h9 hh => ?_)
      obtain ⟨hz10, hh⟩ := hh
      refine rr_iinc (ls' := [some (vR (some x0)), some (vI (x1 + 1))]) dX10_findsDates_41 rfl rfl (by decide) (fun _ z => by cases z) hz10 rfl ?_
      refine rr_goto (pc' := 7) dX10_findsDates_44 (by decide) ?_
      exact hh
theorem dX10_steps_0 : decode cX10_steps 0 = .ok (.aload_n 0, 1) := by decide +kernel
theorem dX10_steps_1 : decode cX10_steps 1 = .ok (.getfield 44, 3) := by decide +kernel
theorem dX10_steps_4 : decode cX10_steps 4 = .ok (.iload_n 1, 1) := by decide +kernel
theorem dX10_steps_5 : decode cX10_steps 5 = .ok (.iconst 4, 1) := by decide +kernel
theorem dX10_steps_6 : decode cX10_steps 6 = .ok (.aload_n 0, 1) := by decide +kernel
theorem dX10_steps_7 : decode cX10_steps 7 = .ok (.getfield 47, 3) := by decide +kernel
theorem dX10_steps_10 : decode cX10_steps 10 = .ok (.iload_n 2, 1) := by decide +kernel
theorem dX10_steps_11 : decode cX10_steps 11 = .ok (.iconst 4, 1) := by decide +kernel
theorem dX10_steps_12 : decode cX10_steps 12 = .ok (.idiv, 1) := by decide +kernel
theorem dX10_steps_13 : decode cX10_steps 13 = .ok (.iaload, 1) := by decide +kernel
theorem dX10_steps_14 : decode cX10_steps 14 = .ok (.imul, 1) := by decide +kernel
theorem dX10_steps_15 : decode cX10_steps 15 = .ok (.iload_n 2, 1) := by decide +kernel
theorem dX10_steps_16 : decode cX10_steps 16 = .ok (.iconst 4, 1) := by decide +kernel
theorem dX10_steps_17 : decode cX10_steps 17 = .ok (.irem, 1) := by decide +kernel
theorem dX10_steps_18 : decode cX10_steps 18 = .ok (.iadd, 1) := by decide +kernel
theorem dX10_steps_19 : decode cX10_steps 19 = .ok (.iastore, 1) := by decide +kernel
theorem dX10_steps_20 : decode cX10_steps 20 = .ok (.return_, 1) := by decide +kernel
set_option maxRecDepth 100000 in
theorem B_X10_steps_0 {d : Nat} {h : AbH} {K : Option AbV → AbH → Prop} {x0 : Nat} {x1 : Int} {x2 : Int} (hh : wpGR h (some x0) 9 20 (fun r1 => wpGR h (some x0) 9 21 (fun r2 => (0 ≤ x2 ∧ (0 : Int) < 4) ∧ wpLI h r2 (x2 / 4) (fun n4 => in32 (4 * n4) ∧ (0 ≤ x2 ∧ (0 : Int) < 4) ∧ in32 ((4 * n4) + (x2 % 4)) ∧ wpSI h r1 x1 ((4 * n4) + (x2 % 4)) (fun h8 => K none h8))))) : Vx (d + 1) m_X10_steps 0 0 0 [some (vR (some x0)), some (vI x1), some (vI x2)] [] h K := by
  refine rr_aload_n dX10_steps_0 rfl rfl ?_
  refine rr_getR cf_X10 (j := 20) (by decide) dX10_steps_1 rfl q_774 hh (fun r1 hh => ?_)
  refine rr_iload_n dX10_steps_4 rfl rfl ?_
  refine rr_iconst dX10_steps_5 rfl ⟨by decide, by decide⟩ ?_
  refine rr_aload_n dX10_steps_6 rfl rfl ?_
  refine rr_getR cf_X10 (j := 21) (by decide) dX10_steps_7 rfl q_775 hh (fun r2 hh => ?_)
  refine rr_iload_n dX10_steps_10 rfl rfl ?_
  refine rr_iconst dX10_steps_11 rfl ⟨by decide, by decide⟩ ?_
  obtain ⟨hz3, hh⟩ := hh
  refine rr_idiv dX10_steps_12 rfl hz3 ?_
  refine rr_iald dX10_steps_13 rfl hh (fun n4 hh => ?_)
  obtain ⟨hz5, hh⟩ := hh
  refine rr_imul dX10_steps_14 rfl hz5 ?_
  refine rr_iload_n dX10_steps_15 rfl rfl ?_
  refine rr_iconst dX10_steps_16 rfl ⟨by decide, by decide⟩ ?_
  obtain ⟨hz6, hh⟩ := hh
  refine rr_irem dX10_steps_17 rfl hz6 ?_
  obtain ⟨hz7, hh⟩ := hh
  refine rr_iadd dX10_steps_18 rfl hz7 ?_
  refine rr_iast dX10_steps_19 rfl hh (fun h8 hh => ?_)
  exact rr_vret dX10_steps_20 rfl hh
theorem dX10_roadOf_0 : decode cX10_roadOf 0 = .ok (.aload_n 0, 1) := by decide +kernel
theorem dX10_roadOf_1 : decode cX10_roadOf 1 = .ok (.invokevirtual 267, 3) := by decide +kernel
theorem dX10_roadOf_4 : decode cX10_roadOf 4 = .ok (.iconst 4, 1) := by decide +kernel
theorem dX10_roadOf_5 : decode cX10_roadOf 5 = .ok (.aload_n 0, 1) := by decide +kernel
theorem dX10_roadOf_6 : decode cX10_roadOf 6 = .ok (.getfield 261, 3) := by decide +kernel
theorem dX10_roadOf_9 : decode cX10_roadOf 9 = .ok (.imul, 1) := by decide +kernel
theorem dX10_roadOf_10 : decode cX10_roadOf 10 = .ok (.istore 5, 2) := by decide +kernel
theorem dX10_roadOf_12 : decode cX10_roadOf 12 = .ok (.aload_n 0, 1) := by decide +kernel
theorem dX10_roadOf_13 : decode cX10_roadOf 13 = .ok (.iload_n 1, 1) := by decide +kernel
theorem dX10_roadOf_14 : decode cX10_roadOf 14 = .ok (.iload_n 2, 1) := by decide +kernel
theorem dX10_roadOf_15 : decode cX10_roadOf 15 = .ok (.iload_n 3, 1) := by decide +kernel
theorem dX10_roadOf_16 : decode cX10_roadOf 16 = .ok (.iload 4, 2) := by decide +kernel
theorem dX10_roadOf_18 : decode cX10_roadOf 18 = .ok (.iconst 0, 1) := by decide +kernel
theorem dX10_roadOf_19 : decode cX10_roadOf 19 = .ok (.invokevirtual 270, 3) := by decide +kernel
theorem dX10_roadOf_22 : decode cX10_roadOf 22 = .ok (.ifCond .eq 5, 3) := by decide +kernel
theorem dX10_roadOf_25 : decode cX10_roadOf 25 = .ok (.iconst 0, 1) := by decide +kernel
theorem dX10_roadOf_26 : decode cX10_roadOf 26 = .ok (.ireturn, 1) := by decide +kernel
theorem dX10_roadOf_27 : decode cX10_roadOf 27 = .ok (.iconst 0, 1) := by decide +kernel
theorem dX10_roadOf_28 : decode cX10_roadOf 28 = .ok (.istore 6, 2) := by decide +kernel
theorem dX10_roadOf_30 : decode cX10_roadOf 30 = .ok (.iload 6, 2) := by decide +kernel
theorem dX10_roadOf_32 : decode cX10_roadOf 32 = .ok (.iload 5, 2) := by decide +kernel
theorem dX10_roadOf_34 : decode cX10_roadOf 34 = .ok (.if_icmp .ge 44, 3) := by decide +kernel
theorem dX10_roadOf_37 : decode cX10_roadOf 37 = .ok (.aload_n 0, 1) := by decide +kernel
theorem dX10_roadOf_38 : decode cX10_roadOf 38 = .ok (.iconst 0, 1) := by decide +kernel
theorem dX10_roadOf_39 : decode cX10_roadOf 39 = .ok (.iload 6, 2) := by decide +kernel
theorem dX10_roadOf_41 : decode cX10_roadOf 41 = .ok (.invokevirtual 274, 3) := by decide +kernel
theorem dX10_roadOf_44 : decode cX10_roadOf 44 = .ok (.aload_n 0, 1) := by decide +kernel
theorem dX10_roadOf_45 : decode cX10_roadOf 45 = .ok (.getfield 44, 3) := by decide +kernel
theorem dX10_roadOf_48 : decode cX10_roadOf 48 = .ok (.iconst 0, 1) := by decide +kernel
theorem dX10_roadOf_49 : decode cX10_roadOf 49 = .ok (.iaload, 1) := by decide +kernel
theorem dX10_roadOf_50 : decode cX10_roadOf 50 = .ok (.iconst 4, 1) := by decide +kernel
theorem dX10_roadOf_51 : decode cX10_roadOf 51 = .ok (.irem, 1) := by decide +kernel
theorem dX10_roadOf_52 : decode cX10_roadOf 52 = .ok (.iload 4, 2) := by decide +kernel
theorem dX10_roadOf_54 : decode cX10_roadOf 54 = .ok (.if_icmp .ne 18, 3) := by decide +kernel
theorem dX10_roadOf_57 : decode cX10_roadOf 57 = .ok (.aload_n 0, 1) := by decide +kernel
theorem dX10_roadOf_58 : decode cX10_roadOf 58 = .ok (.iload_n 1, 1) := by decide +kernel
theorem dX10_roadOf_59 : decode cX10_roadOf 59 = .ok (.iload_n 2, 1) := by decide +kernel
theorem dX10_roadOf_60 : decode cX10_roadOf 60 = .ok (.iload_n 3, 1) := by decide +kernel
theorem dX10_roadOf_61 : decode cX10_roadOf 61 = .ok (.iload 4, 2) := by decide +kernel
theorem dX10_roadOf_63 : decode cX10_roadOf 63 = .ok (.iconst 1, 1) := by decide +kernel
theorem dX10_roadOf_64 : decode cX10_roadOf 64 = .ok (.invokevirtual 270, 3) := by decide +kernel
theorem dX10_roadOf_67 : decode cX10_roadOf 67 = .ok (.ifCond .eq 5, 3) := by decide +kernel
theorem dX10_roadOf_70 : decode cX10_roadOf 70 = .ok (.iconst 1, 1) := by decide +kernel
theorem dX10_roadOf_71 : decode cX10_roadOf 71 = .ok (.ireturn, 1) := by decide +kernel
theorem dX10_roadOf_72 : decode cX10_roadOf 72 = .ok (.iinc 6 1, 3) := by decide +kernel
theorem dX10_roadOf_75 : decode cX10_roadOf 75 = .ok (.goto (-45), 3) := by decide +kernel
theorem dX10_roadOf_78 : decode cX10_roadOf 78 = .ok (.iconst 2, 1) := by decide +kernel
theorem dX10_roadOf_79 : decode cX10_roadOf 79 = .ok (.istore 6, 2) := by decide +kernel
theorem dX10_roadOf_81 : decode cX10_roadOf 81 = .ok (.iload 6, 2) := by decide +kernel
theorem dX10_roadOf_83 : decode cX10_roadOf 83 = .ok (.iconst 4, 1) := by decide +kernel
theorem dX10_roadOf_84 : decode cX10_roadOf 84 = .ok (.if_icmp .ge 125, 3) := by decide +kernel
theorem dX10_roadOf_87 : decode cX10_roadOf 87 = .ok (.iconst 0, 1) := by decide +kernel
theorem dX10_roadOf_88 : decode cX10_roadOf 88 = .ok (.istore 7, 2) := by decide +kernel
theorem dX10_roadOf_90 : decode cX10_roadOf 90 = .ok (.iload 7, 2) := by decide +kernel
theorem dX10_roadOf_92 : decode cX10_roadOf 92 = .ok (.iload 5, 2) := by decide +kernel
theorem dX10_roadOf_94 : decode cX10_roadOf 94 = .ok (.if_icmp .ge 109, 3) := by decide +kernel
theorem dX10_roadOf_97 : decode cX10_roadOf 97 = .ok (.aload_n 0, 1) := by decide +kernel
theorem dX10_roadOf_98 : decode cX10_roadOf 98 = .ok (.iconst 0, 1) := by decide +kernel
theorem dX10_roadOf_99 : decode cX10_roadOf 99 = .ok (.iload 7, 2) := by decide +kernel
theorem dX10_roadOf_101 : decode cX10_roadOf 101 = .ok (.invokevirtual 274, 3) := by decide +kernel
theorem dX10_roadOf_104 : decode cX10_roadOf 104 = .ok (.iload 7, 2) := by decide +kernel
theorem dX10_roadOf_106 : decode cX10_roadOf 106 = .ok (.iconst 4, 1) := by decide +kernel
theorem dX10_roadOf_107 : decode cX10_roadOf 107 = .ok (.idiv, 1) := by decide +kernel
theorem dX10_roadOf_108 : decode cX10_roadOf 108 = .ok (.iconst 4, 1) := by decide +kernel
theorem dX10_roadOf_109 : decode cX10_roadOf 109 = .ok (.imul, 1) := by decide +kernel
theorem dX10_roadOf_110 : decode cX10_roadOf 110 = .ok (.istore 8, 2) := by decide +kernel
theorem dX10_roadOf_112 : decode cX10_roadOf 112 = .ok (.iload 8, 2) := by decide +kernel
theorem dX10_roadOf_114 : decode cX10_roadOf 114 = .ok (.iload 5, 2) := by decide +kernel
theorem dX10_roadOf_116 : decode cX10_roadOf 116 = .ok (.if_icmp .ge 81, 3) := by decide +kernel
theorem dX10_roadOf_119 : decode cX10_roadOf 119 = .ok (.aload_n 0, 1) := by decide +kernel
theorem dX10_roadOf_120 : decode cX10_roadOf 120 = .ok (.iload_n 2, 1) := by decide +kernel
theorem dX10_roadOf_121 : decode cX10_roadOf 121 = .ok (.aload_n 0, 1) := by decide +kernel
theorem dX10_roadOf_122 : decode cX10_roadOf 122 = .ok (.getfield 44, 3) := by decide +kernel
theorem dX10_roadOf_125 : decode cX10_roadOf 125 = .ok (.iconst 0, 1) := by decide +kernel
theorem dX10_roadOf_126 : decode cX10_roadOf 126 = .ok (.iaload, 1) := by decide +kernel
theorem dX10_roadOf_127 : decode cX10_roadOf 127 = .ok (.iconst 4, 1) := by decide +kernel
theorem dX10_roadOf_128 : decode cX10_roadOf 128 = .ok (.irem, 1) := by decide +kernel
theorem dX10_roadOf_129 : decode cX10_roadOf 129 = .ok (.aload_n 0, 1) := by decide +kernel
theorem dX10_roadOf_130 : decode cX10_roadOf 130 = .ok (.getfield 44, 3) := by decide +kernel
theorem dX10_roadOf_133 : decode cX10_roadOf 133 = .ok (.iconst 0, 1) := by decide +kernel
theorem dX10_roadOf_134 : decode cX10_roadOf 134 = .ok (.iaload, 1) := by decide +kernel
theorem dX10_roadOf_135 : decode cX10_roadOf 135 = .ok (.iconst 4, 1) := by decide +kernel
theorem dX10_roadOf_136 : decode cX10_roadOf 136 = .ok (.idiv, 1) := by decide +kernel
theorem dX10_roadOf_137 : decode cX10_roadOf 137 = .ok (.invokevirtual 187, 3) := by decide +kernel
theorem dX10_roadOf_140 : decode cX10_roadOf 140 = .ok (.ifCond .eq 57, 3) := by decide +kernel
theorem dX10_roadOf_143 : decode cX10_roadOf 143 = .ok (.aload_n 0, 1) := by decide +kernel
theorem dX10_roadOf_144 : decode cX10_roadOf 144 = .ok (.iconst 1, 1) := by decide +kernel
theorem dX10_roadOf_145 : decode cX10_roadOf 145 = .ok (.iload 8, 2) := by decide +kernel
theorem dX10_roadOf_147 : decode cX10_roadOf 147 = .ok (.invokevirtual 274, 3) := by decide +kernel
theorem dX10_roadOf_150 : decode cX10_roadOf 150 = .ok (.iload 6, 2) := by decide +kernel
theorem dX10_roadOf_152 : decode cX10_roadOf 152 = .ok (.iconst 2, 1) := by decide +kernel
theorem dX10_roadOf_153 : decode cX10_roadOf 153 = .ok (.if_icmp .ne 19, 3) := by decide +kernel
theorem dX10_roadOf_156 : decode cX10_roadOf 156 = .ok (.aload_n 0, 1) := by decide +kernel
theorem dX10_roadOf_157 : decode cX10_roadOf 157 = .ok (.iload_n 1, 1) := by decide +kernel
theorem dX10_roadOf_158 : decode cX10_roadOf 158 = .ok (.iload_n 2, 1) := by decide +kernel
theorem dX10_roadOf_159 : decode cX10_roadOf 159 = .ok (.iload_n 3, 1) := by decide +kernel
theorem dX10_roadOf_160 : decode cX10_roadOf 160 = .ok (.iload 4, 2) := by decide +kernel
theorem dX10_roadOf_162 : decode cX10_roadOf 162 = .ok (.iconst 2, 1) := by decide +kernel
theorem dX10_roadOf_163 : decode cX10_roadOf 163 = .ok (.invokevirtual 270, 3) := by decide +kernel
theorem dX10_roadOf_166 : decode cX10_roadOf 166 = .ok (.ifCond .eq 25, 3) := by decide +kernel
theorem dX10_roadOf_169 : decode cX10_roadOf 169 = .ok (.goto 19, 3) := by decide +kernel
theorem dX10_roadOf_172 : decode cX10_roadOf 172 = .ok (.aload_n 0, 1) := by decide +kernel
theorem dX10_roadOf_173 : decode cX10_roadOf 173 = .ok (.iload_n 1, 1) := by decide +kernel
theorem dX10_roadOf_174 : decode cX10_roadOf 174 = .ok (.iload_n 2, 1) := by decide +kernel
theorem dX10_roadOf_175 : decode cX10_roadOf 175 = .ok (.iload_n 3, 1) := by decide +kernel
theorem dX10_roadOf_176 : decode cX10_roadOf 176 = .ok (.iload 4, 2) := by decide +kernel
theorem dX10_roadOf_178 : decode cX10_roadOf 178 = .ok (.iload 8, 2) := by decide +kernel
theorem dX10_roadOf_180 : decode cX10_roadOf 180 = .ok (.iload 5, 2) := by decide +kernel
theorem dX10_roadOf_182 : decode cX10_roadOf 182 = .ok (.invokevirtual 276, 3) := by decide +kernel
theorem dX10_roadOf_185 : decode cX10_roadOf 185 = .ok (.ifCond .eq 6, 3) := by decide +kernel
theorem dX10_roadOf_188 : decode cX10_roadOf 188 = .ok (.iload 6, 2) := by decide +kernel
theorem dX10_roadOf_190 : decode cX10_roadOf 190 = .ok (.ireturn, 1) := by decide +kernel
theorem dX10_roadOf_191 : decode cX10_roadOf 191 = .ok (.iinc 8 1, 3) := by decide +kernel
theorem dX10_roadOf_194 : decode cX10_roadOf 194 = .ok (.goto (-82), 3) := by decide +kernel
theorem dX10_roadOf_197 : decode cX10_roadOf 197 = .ok (.iinc 7 1, 3) := by decide +kernel
theorem dX10_roadOf_200 : decode cX10_roadOf 200 = .ok (.goto (-110), 3) := by decide +kernel
theorem dX10_roadOf_203 : decode cX10_roadOf 203 = .ok (.iinc 6 1, 3) := by decide +kernel
theorem dX10_roadOf_206 : decode cX10_roadOf 206 = .ok (.goto (-125), 3) := by decide +kernel
theorem dX10_roadOf_209 : decode cX10_roadOf 209 = .ok (.iconst (-1), 1) := by decide +kernel
theorem dX10_roadOf_210 : decode cX10_roadOf 210 = .ok (.ireturn, 1) := by decide +kernel
set_option maxRecDepth 100000 in
theorem B_X10_roadOf_0 {d : Nat} {h : AbH} {K : Option AbV → AbH → Prop} {x0 : Nat} {x1 : Int} {x2 : Int} {x3 : Int} {x4 : Int} (hh : wpCV h (some x0) 9 (fun b7 => Vm d m_X10_findsDates [vR (some b7)] h (kV (fun h1 => wpGI h1 (some x0) 9 22 (fun n2 => in32 (4 * n2) ∧ wpCV h1 (some x0) 9 (fun b6 => Vm d m_X10_arrives [vR (some b6), vI x1, vI x2, vI x3, vI x4, vI 0] h1 (kI (fun n5 h4 => ((n5 = 0 → Vx (d + 1) m_X10_roadOf 0 0 30 [some (vR (some x0)), some (vI x1), some (vI x2), some (vI x3), some (vI x4), some (vI (4 * n2)), some (vI 0), none, none] [] h4 K) ∧ (¬ (n5 = 0) → K (some (vI 0)) h4)))))))))) : Vx (d + 1) m_X10_roadOf 0 0 0 [some (vR (some x0)), some (vI x1), some (vI x2), some (vI x3), some (vI x4)] [] h K := by
  refine Vx.pad 4 [some (vR (some x0)), some (vI x1), some (vI x2), some (vI x3), some (vI x4), none, none, none, none] rfl ?_
  refine rr_aload_n dX10_roadOf_0 rfl rfl ?_
  refine rr_callW (bc' := 0) (bs' := 0) (q := (some x0)) (av := []) (st := []) mf_X10_findsDates dX10_roadOf_1 rfl q_1115 q_1117 qs_65 ⟨_, _, rfl⟩ rfl (by decide) (Nat.le_refl _) (Nat.le_refl _) hh (rr_kV fun h1 hh => ?_)
  refine rr_iconst dX10_roadOf_4 rfl ⟨by decide, by decide⟩ ?_
  refine rr_aload_n dX10_roadOf_5 rfl rfl ?_
  refine rr_getI cf_X10 (j := 22) (by decide) dX10_roadOf_6 rfl q_776 hh (fun n2 hh => ?_)
  obtain ⟨hz3, hh⟩ := hh
  refine rr_imul dX10_roadOf_9 rfl hz3 ?_
  refine rr_istore (ls' := [some (vR (some x0)), some (vI x1), some (vI x2), some (vI x3), some (vI x4), some (vI (4 * n2)), none, none, none]) dX10_roadOf_10 rfl (by decide) (fun _ z => by cases z) rfl ?_
  refine rr_aload_n dX10_roadOf_12 rfl rfl ?_
  refine rr_iload_n dX10_roadOf_13 rfl rfl ?_
  refine rr_iload_n dX10_roadOf_14 rfl rfl ?_
  refine rr_iload_n dX10_roadOf_15 rfl rfl ?_
  refine rr_iload dX10_roadOf_16 rfl rfl ?_
  refine rr_iconst dX10_roadOf_18 rfl ⟨by decide, by decide⟩ ?_
  refine rr_callW (bc' := 0) (bs' := 0) (q := (some x0)) (av := [vI x1, vI x2, vI x3, vI x4, vI 0]) (st := []) mf_X10_arrives dX10_roadOf_19 rfl q_1123 q_1125 qs_67 ⟨_, _, rfl⟩ rfl (by decide) (Nat.le_refl _) (Nat.le_refl _) hh (rr_kI fun n5 h4 hh => ?_)
  refine rr_if_eq (tgt := 27) dX10_roadOf_22 rfl (by decide) (fun hc22 => ?_) (fun hc22 => ?_)
  · have hh := hh.1 hc22
    refine rr_iconst dX10_roadOf_27 rfl ⟨by decide, by decide⟩ ?_
    refine rr_istore (ls' := [some (vR (some x0)), some (vI x1), some (vI x2), some (vI x3), some (vI x4), some (vI (4 * n2)), some (vI 0), none, none]) dX10_roadOf_28 rfl (by decide) (fun _ z => by cases z) rfl ?_
    exact hh
  · have hh := hh.2 hc22
    refine rr_iconst dX10_roadOf_25 rfl ⟨by decide, by decide⟩ ?_
    exact rr_iret dX10_roadOf_26 rfl hh
set_option maxRecDepth 100000 in
theorem B_X10_roadOf_30 {d : Nat} {h : AbH} {K : Option AbV → AbH → Prop} {x0 : Nat} {x1 : Int} {x2 : Int} {x3 : Int} {x4 : Int} {x5 : Int} {x6 : Int} {bc bs : Nat} (hh : ((x5 ≤ x6 → Vx (d + 1) m_X10_roadOf bc bs 81 [some (vR (some x0)), some (vI x1), some (vI x2), some (vI x3), some (vI x4), some (vI x5), some (vI 2), none, none] [] h K) ∧ (¬ (x5 ≤ x6) → wpCV h (some x0) 9 (fun b10 => Vm d m_X10_steps [vR (some b10), vI 0, vI x6] h (kV (fun h1 => wpGR h1 (some x0) 9 20 (fun r2 => wpLI h1 r2 0 (fun n3 => (0 ≤ n3 ∧ (0 : Int) < 4) ∧ (((n3 % 4) ≠ x4 → in32 (x6 + 1) ∧ Vx (d + 1) m_X10_roadOf bc bs 30 [some (vR (some x0)), some (vI x1), some (vI x2), some (vI x3), some (vI x4), some (vI x5), some (vI (x6 + 1)), none, none] [] h1 K) ∧ (¬ ((n3 % 4) ≠ x4) → wpCV h1 (some x0) 9 (fun b9 => Vm d m_X10_arrives [vR (some b9), vI x1, vI x2, vI x3, vI x4, vI 1] h1 (kI (fun n7 h6 => ((n7 = 0 → in32 (x6 + 1) ∧ Vx (d + 1) m_X10_roadOf bc bs 30 [some (vR (some x0)), some (vI x1), some (vI x2), some (vI x3), some (vI x4), some (vI x5), some (vI (x6 + 1)), none, none] [] h6 K) ∧ (¬ (n7 = 0) → K (some (vI 1)) h6))))))))))))))) : Vx (d + 1) m_X10_roadOf bc bs 30 [some (vR (some x0)), some (vI x1), some (vI x2), some (vI x3), some (vI x4), some (vI x5), some (vI x6), none, none] [] h K := by
  refine rr_iload dX10_roadOf_30 rfl rfl ?_
  refine rr_iload dX10_roadOf_32 rfl rfl ?_
  refine rr_icmp_ge (tgt := 78) dX10_roadOf_34 rfl (by decide) (fun hc34 => ?_) (fun hc34 => ?_)
  · have hh := hh.1 hc34
    refine rr_iconst dX10_roadOf_78 rfl ⟨by decide, by decide⟩ ?_
    refine rr_istore (ls' := [some (vR (some x0)), some (vI x1), some (vI x2), some (vI x3), some (vI x4), some (vI x5), some (vI 2), none, none]) dX10_roadOf_79 rfl (by decide) (fun _ z => by cases z) rfl ?_
    exact hh
  · have hh := hh.2 hc34
    refine rr_aload_n dX10_roadOf_37 rfl rfl ?_
    refine rr_iconst dX10_roadOf_38 rfl ⟨by decide, by decide⟩ ?_
    refine rr_iload dX10_roadOf_39 rfl rfl ?_
    refine rr_callW (bc' := bc) (bs' := bs) (q := (some x0)) (av := [vI 0, vI x6]) (st := []) mf_X10_steps dX10_roadOf_41 rfl q_1127 q_1129 qs_68 ⟨_, _, rfl⟩ rfl (by decide) (Nat.le_refl _) (Nat.le_refl _) hh (rr_kV fun h1 hh => ?_)
    refine rr_aload_n dX10_roadOf_44 rfl rfl ?_
    refine rr_getR cf_X10 (j := 20) (by decide) dX10_roadOf_45 rfl q_774 hh (fun r2 hh => ?_)
    refine rr_iconst dX10_roadOf_48 rfl ⟨by decide, by decide⟩ ?_
    refine rr_iald dX10_roadOf_49 rfl hh (fun n3 hh => ?_)
    refine rr_iconst dX10_roadOf_50 rfl ⟨by decide, by decide⟩ ?_
    obtain ⟨hz4, hh⟩ := hh
    refine rr_irem dX10_roadOf_51 rfl hz4 ?_
    refine rr_iload dX10_roadOf_52 rfl rfl ?_
    refine rr_icmp_ne (tgt := 72) dX10_roadOf_54 rfl (by decide) (fun hc54 => ?_) (fun hc54 => ?_)
    · have hh := hh.1 hc54
      obtain ⟨hz5, hh⟩ := hh
      refine rr_iinc (ls' := [some (vR (some x0)), some (vI x1), some (vI x2), some (vI x3), some (vI x4), some (vI x5), some (vI (x6 + 1)), none, none]) dX10_roadOf_72 rfl rfl (by decide) (fun _ z => by cases z) hz5 rfl ?_
      refine rr_goto (pc' := 30) dX10_roadOf_75 (by decide) ?_
      exact hh
    · have hh := hh.2 hc54
      refine rr_aload_n dX10_roadOf_57 rfl rfl ?_
      refine rr_iload_n dX10_roadOf_58 rfl rfl ?_
      refine rr_iload_n dX10_roadOf_59 rfl rfl ?_
      refine rr_iload_n dX10_roadOf_60 rfl rfl ?_
      refine rr_iload dX10_roadOf_61 rfl rfl ?_
      refine rr_iconst dX10_roadOf_63 rfl ⟨by decide, by decide⟩ ?_
      refine rr_callW (bc' := bc) (bs' := bs) (q := (some x0)) (av := [vI x1, vI x2, vI x3, vI x4, vI 1]) (st := []) mf_X10_arrives dX10_roadOf_64 rfl q_1123 q_1125 qs_67 ⟨_, _, rfl⟩ rfl (by decide) (Nat.le_refl _) (Nat.le_refl _) hh (rr_kI fun n7 h6 hh => ?_)
      refine rr_if_eq (tgt := 72) dX10_roadOf_67 rfl (by decide) (fun hc67 => ?_) (fun hc67 => ?_)
      · have hh := hh.1 hc67
        obtain ⟨hz8, hh⟩ := hh
        refine rr_iinc (ls' := [some (vR (some x0)), some (vI x1), some (vI x2), some (vI x3), some (vI x4), some (vI x5), some (vI (x6 + 1)), none, none]) dX10_roadOf_72 rfl rfl (by decide) (fun _ z => by cases z) hz8 rfl ?_
        refine rr_goto (pc' := 30) dX10_roadOf_75 (by decide) ?_
        exact hh
      · have hh := hh.2 hc67
        refine rr_iconst dX10_roadOf_70 rfl ⟨by decide, by decide⟩ ?_
        exact rr_iret dX10_roadOf_71 rfl hh
set_option maxRecDepth 100000 in
theorem B_X10_roadOf_81 {d : Nat} {h : AbH} {K : Option AbV → AbH → Prop} {x0 : Nat} {x1 : Int} {x2 : Int} {x3 : Int} {x4 : Int} {x5 : Int} {x6 : Int} {bc bs : Nat} (hh : ((4 ≤ x6 → K (some (vI (-1))) h) ∧ (¬ (4 ≤ x6) → Vx (d + 1) m_X10_roadOf bc bs 90 [some (vR (some x0)), some (vI x1), some (vI x2), some (vI x3), some (vI x4), some (vI x5), some (vI x6), some (vI 0), none] [] h K))) : Vx (d + 1) m_X10_roadOf bc bs 81 [some (vR (some x0)), some (vI x1), some (vI x2), some (vI x3), some (vI x4), some (vI x5), some (vI x6), none, none] [] h K := by
  refine rr_iload dX10_roadOf_81 rfl rfl ?_
  refine rr_iconst dX10_roadOf_83 rfl ⟨by decide, by decide⟩ ?_
  refine rr_icmp_ge (tgt := 209) dX10_roadOf_84 rfl (by decide) (fun hc84 => ?_) (fun hc84 => ?_)
  · have hh := hh.1 hc84
    refine rr_iconst dX10_roadOf_209 rfl ⟨by decide, by decide⟩ ?_
    exact rr_iret dX10_roadOf_210 rfl hh
  · have hh := hh.2 hc84
    refine rr_iconst dX10_roadOf_87 rfl ⟨by decide, by decide⟩ ?_
    refine rr_istore (ls' := [some (vR (some x0)), some (vI x1), some (vI x2), some (vI x3), some (vI x4), some (vI x5), some (vI x6), some (vI 0), none]) dX10_roadOf_88 rfl (by decide) (fun _ z => by cases z) rfl ?_
    exact hh
set_option maxRecDepth 100000 in
theorem B_X10_roadOf_90 {d : Nat} {h : AbH} {K : Option AbV → AbH → Prop} {x0 : Nat} {x1 : Int} {x2 : Int} {x3 : Int} {x4 : Int} {x5 : Int} {x6 : Int} {x7 : Int} {bc bs : Nat} (hh : ((x5 ≤ x7 → in32 (x6 + 1) ∧ Vx (d + 1) m_X10_roadOf bc bs 81 [some (vR (some x0)), some (vI x1), some (vI x2), some (vI x3), some (vI x4), some (vI x5), some (vI (x6 + 1)), none, none] [] h K) ∧ (¬ (x5 ≤ x7) → wpCV h (some x0) 9 (fun b5 => Vm d m_X10_steps [vR (some b5), vI 0, vI x7] h (kV (fun h2 => (0 ≤ x7 ∧ (0 : Int) < 4) ∧ in32 ((x7 / 4) * 4) ∧ Vx (d + 1) m_X10_roadOf bc bs 112 [some (vR (some x0)), some (vI x1), some (vI x2), some (vI x3), some (vI x4), some (vI x5), some (vI x6), some (vI x7), some (vI ((x7 / 4) * 4))] [] h2 K)))))) : Vx (d + 1) m_X10_roadOf bc bs 90 [some (vR (some x0)), some (vI x1), some (vI x2), some (vI x3), some (vI x4), some (vI x5), some (vI x6), some (vI x7), none] [] h K := by
  refine rr_iload dX10_roadOf_90 rfl rfl ?_
  refine rr_iload dX10_roadOf_92 rfl rfl ?_
  refine rr_icmp_ge (tgt := 203) dX10_roadOf_94 rfl (by decide) (fun hc94 => ?_) (fun hc94 => ?_)
  · have hh := hh.1 hc94
    obtain ⟨hz1, hh⟩ := hh
    refine rr_iinc (ls' := [some (vR (some x0)), some (vI x1), some (vI x2), some (vI x3), some (vI x4), some (vI x5), some (vI (x6 + 1)), some (vI x7), none]) dX10_roadOf_203 rfl rfl (by decide) (fun _ z => by cases z) hz1 rfl ?_
    refine rr_goto (pc' := 81) dX10_roadOf_206 (by decide) ?_
    exact Vx.forget (ls' := [some (vR (some x0)), some (vI x1), some (vI x2), some (vI x3), some (vI x4), some (vI x5), some (vI (x6 + 1)), none, none]) (And.intro rfl (And.intro rfl (And.intro rfl (And.intro rfl (And.intro rfl (And.intro rfl (And.intro rfl trivial))))))) hh
  · have hh := hh.2 hc94
    refine rr_aload_n dX10_roadOf_97 rfl rfl ?_
    refine rr_iconst dX10_roadOf_98 rfl ⟨by decide, by decide⟩ ?_
    refine rr_iload dX10_roadOf_99 rfl rfl ?_
    refine rr_callW (bc' := bc) (bs' := bs) (q := (some x0)) (av := [vI 0, vI x7]) (st := []) mf_X10_steps dX10_roadOf_101 rfl q_1127 q_1129 qs_68 ⟨_, _, rfl⟩ rfl (by decide) (Nat.le_refl _) (Nat.le_refl _) hh (rr_kV fun h2 hh => ?_)
    refine rr_iload dX10_roadOf_104 rfl rfl ?_
    refine rr_iconst dX10_roadOf_106 rfl ⟨by decide, by decide⟩ ?_
    obtain ⟨hz3, hh⟩ := hh
    refine rr_idiv dX10_roadOf_107 rfl hz3 ?_
    refine rr_iconst dX10_roadOf_108 rfl ⟨by decide, by decide⟩ ?_
    obtain ⟨hz4, hh⟩ := hh
    refine rr_imul dX10_roadOf_109 rfl hz4 ?_
    refine rr_istore (ls' := [some (vR (some x0)), some (vI x1), some (vI x2), some (vI x3), some (vI x4), some (vI x5), some (vI x6), some (vI x7), some (vI ((x7 / 4) * 4))]) dX10_roadOf_110 rfl (by decide) (fun _ z => by cases z) rfl ?_
    exact hh
set_option maxRecDepth 100000 in
theorem B_X10_roadOf_112 {d : Nat} {h : AbH} {K : Option AbV → AbH → Prop} {x0 : Nat} {x1 : Int} {x2 : Int} {x3 : Int} {x4 : Int} {x5 : Int} {x6 : Int} {x7 : Int} {x8 : Int} {bc bs : Nat} (hh : ((x5 ≤ x8 → in32 (x7 + 1) ∧ Vx (d + 1) m_X10_roadOf bc bs 90 [some (vR (some x0)), some (vI x1), some (vI x2), some (vI x3), some (vI x4), some (vI x5), some (vI x6), some (vI (x7 + 1)), none] [] h K) ∧ (¬ (x5 ≤ x8) → wpGR h (some x0) 9 20 (fun r2 => wpLI h r2 0 (fun n3 => (0 ≤ n3 ∧ (0 : Int) < 4) ∧ wpGR h (some x0) 9 20 (fun r5 => wpLI h r5 0 (fun n6 => (0 ≤ n6 ∧ (0 : Int) < 4) ∧ wpCV h (some x0) 9 (fun b21 => Vm d m_X10_isMet [vR (some b21), vI x2, vI (n3 % 4), vI (n6 / 4)] h (kI (fun n9 h8 => ((n9 = 0 → in32 (x7 + 1) ∧ Vx (d + 1) m_X10_roadOf bc bs 90 [some (vR (some x0)), some (vI x1), some (vI x2), some (vI x3), some (vI x4), some (vI x5), some (vI x6), some (vI (x7 + 1)), none] [] h8 K) ∧ (¬ (n9 = 0) → wpCV h8 (some x0) 9 (fun b20 => Vm d m_X10_steps [vR (some b20), vI 1, vI x8] h8 (kV (fun h11 => ((x6 ≠ 2 → wpCV h11 (some x0) 9 (fun b15 => Vm d m_X10_isThird [vR (some b15), vI x1, vI x2, vI x3, vI x4, vI x8, vI x5] h11 (kI (fun n13 h12 => ((n13 = 0 → in32 (x8 + 1) ∧ Vx (d + 1) m_X10_roadOf bc bs 112 [some (vR (some x0)), some (vI x1), some (vI x2), some (vI x3), some (vI x4), some (vI x5), some (vI x6), some (vI x7), some (vI (x8 + 1))] [] h12 K) ∧ (¬ (n13 = 0) → K (some (vI x6)) h12)))))) ∧ (¬ (x6 ≠ 2) → wpCV h11 (some x0) 9 (fun b19 => Vm d m_X10_arrives [vR (some b19), vI x1, vI x2, vI x3, vI x4, vI 2] h11 (kI (fun n17 h16 => ((n17 = 0 → in32 (x8 + 1) ∧ Vx (d + 1) m_X10_roadOf bc bs 112 [some (vR (some x0)), some (vI x1), some (vI x2), some (vI x3), some (vI x4), some (vI x5), some (vI x6), some (vI x7), some (vI (x8 + 1))] [] h16 K) ∧ (¬ (n17 = 0) → K (some (vI x6)) h16)))))))))))))))))))))) : Vx (d + 1) m_X10_roadOf bc bs 112 [some (vR (some x0)), some (vI x1), some (vI x2), some (vI x3), some (vI x4), some (vI x5), some (vI x6), some (vI x7), some (vI x8)] [] h K := by
  refine rr_iload dX10_roadOf_112 rfl rfl ?_
  refine rr_iload dX10_roadOf_114 rfl rfl ?_
  refine rr_icmp_ge (tgt := 197) dX10_roadOf_116 rfl (by decide) (fun hc116 => ?_) (fun hc116 => ?_)
  · have hh := hh.1 hc116
    obtain ⟨hz1, hh⟩ := hh
    refine rr_iinc (ls' := [some (vR (some x0)), some (vI x1), some (vI x2), some (vI x3), some (vI x4), some (vI x5), some (vI x6), some (vI (x7 + 1)), some (vI x8)]) dX10_roadOf_197 rfl rfl (by decide) (fun _ z => by cases z) hz1 rfl ?_
    refine rr_goto (pc' := 90) dX10_roadOf_200 (by decide) ?_
    exact Vx.forget (ls' := [some (vR (some x0)), some (vI x1), some (vI x2), some (vI x3), some (vI x4), some (vI x5), some (vI x6), some (vI (x7 + 1)), none]) (And.intro rfl (And.intro rfl (And.intro rfl (And.intro rfl (And.intro rfl (And.intro rfl (And.intro rfl (And.intro rfl trivial)))))))) hh
  · have hh := hh.2 hc116
    refine rr_aload_n dX10_roadOf_119 rfl rfl ?_
    refine rr_iload_n dX10_roadOf_120 rfl rfl ?_
    refine rr_aload_n dX10_roadOf_121 rfl rfl ?_
    refine rr_getR cf_X10 (j := 20) (by decide) dX10_roadOf_122 rfl q_774 hh (fun r2 hh => ?_)
    refine rr_iconst dX10_roadOf_125 rfl ⟨by decide, by decide⟩ ?_
    refine rr_iald dX10_roadOf_126 rfl hh (fun n3 hh => ?_)
    refine rr_iconst dX10_roadOf_127 rfl ⟨by decide, by decide⟩ ?_
    obtain ⟨hz4, hh⟩ := hh
    refine rr_irem dX10_roadOf_128 rfl hz4 ?_
    refine rr_aload_n dX10_roadOf_129 rfl rfl ?_
    refine rr_getR cf_X10 (j := 20) (by decide) dX10_roadOf_130 rfl q_774 hh (fun r5 hh => ?_)
    refine rr_iconst dX10_roadOf_133 rfl ⟨by decide, by decide⟩ ?_
    refine rr_iald dX10_roadOf_134 rfl hh (fun n6 hh => ?_)
    refine rr_iconst dX10_roadOf_135 rfl ⟨by decide, by decide⟩ ?_
    obtain ⟨hz7, hh⟩ := hh
    refine rr_idiv dX10_roadOf_136 rfl hz7 ?_
    refine rr_callW (bc' := bc) (bs' := bs) (q := (some x0)) (av := [vI x2, vI (n3 % 4), vI (n6 / 4)]) (st := []) mf_X10_isMet dX10_roadOf_137 rfl q_1051 q_1053 qs_56 ⟨_, _, rfl⟩ rfl (by decide) (Nat.le_refl _) (Nat.le_refl _) hh (rr_kI fun n9 h8 hh => ?_)
    refine rr_if_eq (tgt := 197) dX10_roadOf_140 rfl (by decide) (fun hc140 => ?_) (fun hc140 => ?_)
    · have hh := hh.1 hc140
      obtain ⟨hz10, hh⟩ := hh
      refine rr_iinc (ls' := [some (vR (some x0)), some (vI x1), some (vI x2), some (vI x3), some (vI x4), some (vI x5), some (vI x6), some (vI (x7 + 1)), some (vI x8)]) dX10_roadOf_197 rfl rfl (by decide) (fun _ z => by cases z) hz10 rfl ?_
      refine rr_goto (pc' := 90) dX10_roadOf_200 (by decide) ?_
      exact Vx.forget (ls' := [some (vR (some x0)), some (vI x1), some (vI x2), some (vI x3), some (vI x4), some (vI x5), some (vI x6), some (vI (x7 + 1)), none]) (And.intro rfl (And.intro rfl (And.intro rfl (And.intro rfl (And.intro rfl (And.intro rfl (And.intro rfl (And.intro rfl trivial)))))))) hh
    · have hh := hh.2 hc140
      refine rr_aload_n dX10_roadOf_143 rfl rfl ?_
      refine rr_iconst dX10_roadOf_144 rfl ⟨by decide, by decide⟩ ?_
      refine rr_iload dX10_roadOf_145 rfl rfl ?_
      refine rr_callW (bc' := bc) (bs' := bs) (q := (some x0)) (av := [vI 1, vI x8]) (st := []) mf_X10_steps dX10_roadOf_147 rfl q_1127 q_1129 qs_68 ⟨_, _, rfl⟩ rfl (by decide) (Nat.le_refl _) (Nat.le_refl _) hh (rr_kV fun h11 hh => ?_)
      refine rr_iload dX10_roadOf_150 rfl rfl ?_
      refine rr_iconst dX10_roadOf_152 rfl ⟨by decide, by decide⟩ ?_
      refine rr_icmp_ne (tgt := 172) dX10_roadOf_153 rfl (by decide) (fun hc153 => ?_) (fun hc153 => ?_)
      · have hh := hh.1 hc153
        refine rr_aload_n dX10_roadOf_172 rfl rfl ?_
        refine rr_iload_n dX10_roadOf_173 rfl rfl ?_
        refine rr_iload_n dX10_roadOf_174 rfl rfl ?_
        refine rr_iload_n dX10_roadOf_175 rfl rfl ?_
        refine rr_iload dX10_roadOf_176 rfl rfl ?_
        refine rr_iload dX10_roadOf_178 rfl rfl ?_
        refine rr_iload dX10_roadOf_180 rfl rfl ?_
        refine rr_callW (bc' := bc) (bs' := bs) (q := (some x0)) (av := [vI x1, vI x2, vI x3, vI x4, vI x8, vI x5]) (st := []) mf_X10_isThird dX10_roadOf_182 rfl q_1131 q_1133 qs_69 ⟨_, _, rfl⟩ rfl (by decide) (Nat.le_refl _) (Nat.le_refl _) hh (rr_kI fun n13 h12 hh => ?_)
        refine rr_if_eq (tgt := 191) dX10_roadOf_185 rfl (by decide) (fun hc185 => ?_) (fun hc185 => ?_)
        · have hh := hh.1 hc185
          obtain ⟨hz14, hh⟩ := hh
          refine rr_iinc (ls' := [some (vR (some x0)), some (vI x1), some (vI x2), some (vI x3), some (vI x4), some (vI x5), some (vI x6), some (vI x7), some (vI (x8 + 1))]) dX10_roadOf_191 rfl rfl (by decide) (fun _ z => by cases z) hz14 rfl ?_
          refine rr_goto (pc' := 112) dX10_roadOf_194 (by decide) ?_
          exact hh
        · have hh := hh.2 hc185
          refine rr_iload dX10_roadOf_188 rfl rfl ?_
          exact rr_iret dX10_roadOf_190 rfl hh
      · have hh := hh.2 hc153
        refine rr_aload_n dX10_roadOf_156 rfl rfl ?_
        refine rr_iload_n dX10_roadOf_157 rfl rfl ?_
        refine rr_iload_n dX10_roadOf_158 rfl rfl ?_
        refine rr_iload_n dX10_roadOf_159 rfl rfl ?_
        refine rr_iload dX10_roadOf_160 rfl rfl ?_
        refine rr_iconst dX10_roadOf_162 rfl ⟨by decide, by decide⟩ ?_
        refine rr_callW (bc' := bc) (bs' := bs) (q := (some x0)) (av := [vI x1, vI x2, vI x3, vI x4, vI 2]) (st := []) mf_X10_arrives dX10_roadOf_163 rfl q_1123 q_1125 qs_67 ⟨_, _, rfl⟩ rfl (by decide) (Nat.le_refl _) (Nat.le_refl _) hh (rr_kI fun n17 h16 hh => ?_)
        refine rr_if_eq (tgt := 191) dX10_roadOf_166 rfl (by decide) (fun hc166 => ?_) (fun hc166 => ?_)
        · have hh := hh.1 hc166
          obtain ⟨hz18, hh⟩ := hh
          refine rr_iinc (ls' := [some (vR (some x0)), some (vI x1), some (vI x2), some (vI x3), some (vI x4), some (vI x5), some (vI x6), some (vI x7), some (vI (x8 + 1))]) dX10_roadOf_191 rfl rfl (by decide) (fun _ z => by cases z) hz18 rfl ?_
          refine rr_goto (pc' := 112) dX10_roadOf_194 (by decide) ?_
          exact hh
        · have hh := hh.2 hc166
          refine rr_goto (pc' := 188) dX10_roadOf_169 (by decide) ?_
          refine rr_iload dX10_roadOf_188 rfl rfl ?_
          exact rr_iret dX10_roadOf_190 rfl hh
theorem dX10_isThird_0 : decode cX10_isThird 0 = .ok (.aload_n 0, 1) := by decide +kernel
theorem dX10_isThird_1 : decode cX10_isThird 1 = .ok (.aload_n 0, 1) := by decide +kernel
theorem dX10_isThird_2 : decode cX10_isThird 2 = .ok (.getfield 44, 3) := by decide +kernel
theorem dX10_isThird_5 : decode cX10_isThird 5 = .ok (.iconst 0, 1) := by decide +kernel
theorem dX10_isThird_6 : decode cX10_isThird 6 = .ok (.iaload, 1) := by decide +kernel
theorem dX10_isThird_7 : decode cX10_isThird 7 = .ok (.iconst 4, 1) := by decide +kernel
theorem dX10_isThird_8 : decode cX10_isThird 8 = .ok (.irem, 1) := by decide +kernel
theorem dX10_isThird_9 : decode cX10_isThird 9 = .ok (.aload_n 0, 1) := by decide +kernel
theorem dX10_isThird_10 : decode cX10_isThird 10 = .ok (.getfield 44, 3) := by decide +kernel
theorem dX10_isThird_13 : decode cX10_isThird 13 = .ok (.iconst 1, 1) := by decide +kernel
theorem dX10_isThird_14 : decode cX10_isThird 14 = .ok (.iaload, 1) := by decide +kernel
theorem dX10_isThird_15 : decode cX10_isThird 15 = .ok (.iconst 4, 1) := by decide +kernel
theorem dX10_isThird_16 : decode cX10_isThird 16 = .ok (.irem, 1) := by decide +kernel
theorem dX10_isThird_17 : decode cX10_isThird 17 = .ok (.aload_n 0, 1) := by decide +kernel
theorem dX10_isThird_18 : decode cX10_isThird 18 = .ok (.getfield 44, 3) := by decide +kernel
theorem dX10_isThird_21 : decode cX10_isThird 21 = .ok (.iconst 1, 1) := by decide +kernel
theorem dX10_isThird_22 : decode cX10_isThird 22 = .ok (.iaload, 1) := by decide +kernel
theorem dX10_isThird_23 : decode cX10_isThird 23 = .ok (.iconst 4, 1) := by decide +kernel
theorem dX10_isThird_24 : decode cX10_isThird 24 = .ok (.idiv, 1) := by decide +kernel
theorem dX10_isThird_25 : decode cX10_isThird 25 = .ok (.invokevirtual 187, 3) := by decide +kernel
theorem dX10_isThird_28 : decode cX10_isThird 28 = .ok (.ifCond .ne 5, 3) := by decide +kernel
theorem dX10_isThird_31 : decode cX10_isThird 31 = .ok (.iconst 0, 1) := by decide +kernel
theorem dX10_isThird_32 : decode cX10_isThird 32 = .ok (.ireturn, 1) := by decide +kernel
theorem dX10_isThird_33 : decode cX10_isThird 33 = .ok (.iload 5, 2) := by decide +kernel
theorem dX10_isThird_35 : decode cX10_isThird 35 = .ok (.iconst 4, 1) := by decide +kernel
theorem dX10_isThird_36 : decode cX10_isThird 36 = .ok (.idiv, 1) := by decide +kernel
theorem dX10_isThird_37 : decode cX10_isThird 37 = .ok (.iconst 4, 1) := by decide +kernel
theorem dX10_isThird_38 : decode cX10_isThird 38 = .ok (.imul, 1) := by decide +kernel
theorem dX10_isThird_39 : decode cX10_isThird 39 = .ok (.iload 4, 2) := by decide +kernel
theorem dX10_isThird_41 : decode cX10_isThird 41 = .ok (.iadd, 1) := by decide +kernel
theorem dX10_isThird_42 : decode cX10_isThird 42 = .ok (.istore 7, 2) := by decide +kernel
theorem dX10_isThird_44 : decode cX10_isThird 44 = .ok (.iload 7, 2) := by decide +kernel
theorem dX10_isThird_46 : decode cX10_isThird 46 = .ok (.iload 6, 2) := by decide +kernel
theorem dX10_isThird_48 : decode cX10_isThird 48 = .ok (.if_icmp .ge 31, 3) := by decide +kernel
theorem dX10_isThird_51 : decode cX10_isThird 51 = .ok (.aload_n 0, 1) := by decide +kernel
theorem dX10_isThird_52 : decode cX10_isThird 52 = .ok (.iconst 2, 1) := by decide +kernel
theorem dX10_isThird_53 : decode cX10_isThird 53 = .ok (.iload 7, 2) := by decide +kernel
theorem dX10_isThird_55 : decode cX10_isThird 55 = .ok (.invokevirtual 274, 3) := by decide +kernel
theorem dX10_isThird_58 : decode cX10_isThird 58 = .ok (.aload_n 0, 1) := by decide +kernel
theorem dX10_isThird_59 : decode cX10_isThird 59 = .ok (.iload_n 1, 1) := by decide +kernel
theorem dX10_isThird_60 : decode cX10_isThird 60 = .ok (.iload_n 2, 1) := by decide +kernel
theorem dX10_isThird_61 : decode cX10_isThird 61 = .ok (.iload_n 3, 1) := by decide +kernel
theorem dX10_isThird_62 : decode cX10_isThird 62 = .ok (.iload 4, 2) := by decide +kernel
theorem dX10_isThird_64 : decode cX10_isThird 64 = .ok (.iconst 3, 1) := by decide +kernel
theorem dX10_isThird_65 : decode cX10_isThird 65 = .ok (.invokevirtual 270, 3) := by decide +kernel
theorem dX10_isThird_68 : decode cX10_isThird 68 = .ok (.ifCond .eq 5, 3) := by decide +kernel
theorem dX10_isThird_71 : decode cX10_isThird 71 = .ok (.iconst 1, 1) := by decide +kernel
theorem dX10_isThird_72 : decode cX10_isThird 72 = .ok (.ireturn, 1) := by decide +kernel
theorem dX10_isThird_73 : decode cX10_isThird 73 = .ok (.iinc 7 4, 3) := by decide +kernel
theorem dX10_isThird_76 : decode cX10_isThird 76 = .ok (.goto (-32), 3) := by decide +kernel
theorem dX10_isThird_79 : decode cX10_isThird 79 = .ok (.iconst 0, 1) := by decide +kernel
theorem dX10_isThird_80 : decode cX10_isThird 80 = .ok (.ireturn, 1) := by decide +kernel
set_option maxRecDepth 100000 in
theorem B_X10_isThird_0 {d : Nat} {h : AbH} {K : Option AbV → AbH → Prop} {x0 : Nat} {x1 : Int} {x2 : Int} {x3 : Int} {x4 : Int} {x5 : Int} {x6 : Int} (hh : wpGR h (some x0) 9 20 (fun r1 => wpLI h r1 0 (fun n2 => (0 ≤ n2 ∧ (0 : Int) < 4) ∧ wpGR h (some x0) 9 20 (fun r4 => wpLI h r4 1 (fun n5 => (0 ≤ n5 ∧ (0 : Int) < 4) ∧ wpGR h (some x0) 9 20 (fun r7 => wpLI h r7 1 (fun n8 => (0 ≤ n8 ∧ (0 : Int) < 4) ∧ wpCV h (some x0) 9 (fun b15 => Vm d m_X10_isMet [vR (some b15), vI (n2 % 4), vI (n5 % 4), vI (n8 / 4)] h (kI (fun n11 h10 => ((n11 ≠ 0 → (0 ≤ x5 ∧ (0 : Int) < 4) ∧ in32 ((x5 / 4) * 4) ∧ in32 (((x5 / 4) * 4) + x4) ∧ Vx (d + 1) m_X10_isThird 0 0 44 [some (vR (some x0)), some (vI x1), some (vI x2), some (vI x3), some (vI x4), some (vI x5), some (vI x6), some (vI (((x5 / 4) * 4) + x4))] [] h10 K) ∧ (¬ (n11 ≠ 0) → K (some (vI 0)) h10)))))))))))) : Vx (d + 1) m_X10_isThird 0 0 0 [some (vR (some x0)), some (vI x1), some (vI x2), some (vI x3), some (vI x4), some (vI x5), some (vI x6)] [] h K := by
  refine Vx.pad 1 [some (vR (some x0)), some (vI x1), some (vI x2), some (vI x3), some (vI x4), some (vI x5), some (vI x6), none] rfl ?_
  refine rr_aload_n dX10_isThird_0 rfl rfl ?_
  refine rr_aload_n dX10_isThird_1 rfl rfl ?_
  refine rr_getR cf_X10 (j := 20) (by decide) dX10_isThird_2 rfl q_774 hh (fun r1 hh => ?_)
  refine rr_iconst dX10_isThird_5 rfl ⟨by decide, by decide⟩ ?_
  refine rr_iald dX10_isThird_6 rfl hh (fun n2 hh => ?_)
  refine rr_iconst dX10_isThird_7 rfl ⟨by decide, by decide⟩ ?_
  obtain ⟨hz3, hh⟩ := hh
  refine rr_irem dX10_isThird_8 rfl hz3 ?_
  refine rr_aload_n dX10_isThird_9 rfl rfl ?_
  refine rr_getR cf_X10 (j := 20) (by decide) dX10_isThird_10 rfl q_774 hh (fun r4 hh => ?_)
  refine rr_iconst dX10_isThird_13 rfl ⟨by decide, by decide⟩ ?_
  refine rr_iald dX10_isThird_14 rfl hh (fun n5 hh => ?_)
  refine rr_iconst dX10_isThird_15 rfl ⟨by decide, by decide⟩ ?_
  obtain ⟨hz6, hh⟩ := hh
  refine rr_irem dX10_isThird_16 rfl hz6 ?_
  refine rr_aload_n dX10_isThird_17 rfl rfl ?_
  refine rr_getR cf_X10 (j := 20) (by decide) dX10_isThird_18 rfl q_774 hh (fun r7 hh => ?_)
  refine rr_iconst dX10_isThird_21 rfl ⟨by decide, by decide⟩ ?_
  refine rr_iald dX10_isThird_22 rfl hh (fun n8 hh => ?_)
  refine rr_iconst dX10_isThird_23 rfl ⟨by decide, by decide⟩ ?_
  obtain ⟨hz9, hh⟩ := hh
  refine rr_idiv dX10_isThird_24 rfl hz9 ?_
  refine rr_callW (bc' := 0) (bs' := 0) (q := (some x0)) (av := [vI (n2 % 4), vI (n5 % 4), vI (n8 / 4)]) (st := []) mf_X10_isMet dX10_isThird_25 rfl q_1051 q_1053 qs_56 ⟨_, _, rfl⟩ rfl (by decide) (Nat.le_refl _) (Nat.le_refl _) hh (rr_kI fun n11 h10 hh => ?_)
  refine rr_if_ne (tgt := 33) dX10_isThird_28 rfl (by decide) (fun hc28 => ?_) (fun hc28 => ?_)
  · have hh := hh.1 hc28
    refine rr_iload dX10_isThird_33 rfl rfl ?_
    refine rr_iconst dX10_isThird_35 rfl ⟨by decide, by decide⟩ ?_
    obtain ⟨hz12, hh⟩ := hh
    refine rr_idiv dX10_isThird_36 rfl hz12 ?_
    refine rr_iconst dX10_isThird_37 rfl ⟨by decide, by decide⟩ ?_
    obtain ⟨hz13, hh⟩ := hh
    refine rr_imul dX10_isThird_38 rfl hz13 ?_
    refine rr_iload dX10_isThird_39 rfl rfl ?_
    obtain ⟨hz14, hh⟩ := hh
    refine rr_iadd dX10_isThird_41 rfl hz14 ?_
    refine rr_istore (ls' := [some (vR (some x0)), some (vI x1), some (vI x2), some (vI x3), some (vI x4), some (vI x5), some (vI x6), some (vI (((x5 / 4) * 4) + x4))]) dX10_isThird_42 rfl (by decide) (fun _ z => by cases z) rfl ?_
    exact hh
  · have hh := hh.2 hc28
    refine rr_iconst dX10_isThird_31 rfl ⟨by decide, by decide⟩ ?_
    exact rr_zret dX10_isThird_32 rfl rfl hh
set_option maxRecDepth 100000 in
theorem B_X10_isThird_44 {d : Nat} {h : AbH} {K : Option AbV → AbH → Prop} {x0 : Nat} {x1 : Int} {x2 : Int} {x3 : Int} {x4 : Int} {x5 : Int} {x6 : Int} {x7 : Int} {bc bs : Nat} (hh : ((x6 ≤ x7 → K (some (vI 0)) h) ∧ (¬ (x6 ≤ x7) → wpCV h (some x0) 9 (fun b6 => Vm d m_X10_steps [vR (some b6), vI 2, vI x7] h (kV (fun h1 => wpCV h1 (some x0) 9 (fun b5 => Vm d m_X10_arrives [vR (some b5), vI x1, vI x2, vI x3, vI x4, vI 3] h1 (kI (fun n3 h2 => ((n3 = 0 → in32 (x7 + 4) ∧ Vx (d + 1) m_X10_isThird bc bs 44 [some (vR (some x0)), some (vI x1), some (vI x2), some (vI x3), some (vI x4), some (vI x5), some (vI x6), some (vI (x7 + 4))] [] h2 K) ∧ (¬ (n3 = 0) → K (some (vI 1)) h2))))))))))) : Vx (d + 1) m_X10_isThird bc bs 44 [some (vR (some x0)), some (vI x1), some (vI x2), some (vI x3), some (vI x4), some (vI x5), some (vI x6), some (vI x7)] [] h K := by
  refine rr_iload dX10_isThird_44 rfl rfl ?_
  refine rr_iload dX10_isThird_46 rfl rfl ?_
  refine rr_icmp_ge (tgt := 79) dX10_isThird_48 rfl (by decide) (fun hc48 => ?_) (fun hc48 => ?_)
  · have hh := hh.1 hc48
    refine rr_iconst dX10_isThird_79 rfl ⟨by decide, by decide⟩ ?_
    exact rr_zret dX10_isThird_80 rfl rfl hh
  · have hh := hh.2 hc48
    refine rr_aload_n dX10_isThird_51 rfl rfl ?_
    refine rr_iconst dX10_isThird_52 rfl ⟨by decide, by decide⟩ ?_
    refine rr_iload dX10_isThird_53 rfl rfl ?_
    refine rr_callW (bc' := bc) (bs' := bs) (q := (some x0)) (av := [vI 2, vI x7]) (st := []) mf_X10_steps dX10_isThird_55 rfl q_1127 q_1129 qs_68 ⟨_, _, rfl⟩ rfl (by decide) (Nat.le_refl _) (Nat.le_refl _) hh (rr_kV fun h1 hh => ?_)
    refine rr_aload_n dX10_isThird_58 rfl rfl ?_
    refine rr_iload_n dX10_isThird_59 rfl rfl ?_
    refine rr_iload_n dX10_isThird_60 rfl rfl ?_
    refine rr_iload_n dX10_isThird_61 rfl rfl ?_
    refine rr_iload dX10_isThird_62 rfl rfl ?_
    refine rr_iconst dX10_isThird_64 rfl ⟨by decide, by decide⟩ ?_
    refine rr_callW (bc' := bc) (bs' := bs) (q := (some x0)) (av := [vI x1, vI x2, vI x3, vI x4, vI 3]) (st := []) mf_X10_arrives dX10_isThird_65 rfl q_1123 q_1125 qs_67 ⟨_, _, rfl⟩ rfl (by decide) (Nat.le_refl _) (Nat.le_refl _) hh (rr_kI fun n3 h2 hh => ?_)
    refine rr_if_eq (tgt := 73) dX10_isThird_68 rfl (by decide) (fun hc68 => ?_) (fun hc68 => ?_)
    · have hh := hh.1 hc68
      obtain ⟨hz4, hh⟩ := hh
      refine rr_iinc (ls' := [some (vR (some x0)), some (vI x1), some (vI x2), some (vI x3), some (vI x4), some (vI x5), some (vI x6), some (vI (x7 + 4))]) dX10_isThird_73 rfl rfl (by decide) (fun _ z => by cases z) hz4 rfl ?_
      refine rr_goto (pc' := 44) dX10_isThird_76 (by decide) ?_
      exact hh
    · have hh := hh.2 hc68
      refine rr_iconst dX10_isThird_71 rfl ⟨by decide, by decide⟩ ?_
      exact rr_zret dX10_isThird_72 rfl rfl hh
theorem dX10_road_0 : decode cX10_road 0 = .ok (.aload_n 0, 1) := by decide +kernel
theorem dX10_road_1 : decode cX10_road 1 = .ok (.iload_n 1, 1) := by decide +kernel
theorem dX10_road_2 : decode cX10_road 2 = .ok (.invokevirtual 241, 3) := by decide +kernel
theorem dX10_road_5 : decode cX10_road 5 = .ok (.ifCond .eq 26, 3) := by decide +kernel
theorem dX10_road_8 : decode cX10_road 8 = .ok (.aload_n 0, 1) := by decide +kernel
theorem dX10_road_9 : decode cX10_road 9 = .ok (.iload_n 3, 1) := by decide +kernel
theorem dX10_road_10 : decode cX10_road 10 = .ok (.invokevirtual 241, 3) := by decide +kernel
theorem dX10_road_13 : decode cX10_road 13 = .ok (.ifCond .eq 18, 3) := by decide +kernel
theorem dX10_road_16 : decode cX10_road 16 = .ok (.iload_n 2, 1) := by decide +kernel
theorem dX10_road_17 : decode cX10_road 17 = .ok (.invokestatic 56, 3) := by decide +kernel
theorem dX10_road_20 : decode cX10_road 20 = .ok (.ifCond .eq 11, 3) := by decide +kernel
theorem dX10_road_23 : decode cX10_road 23 = .ok (.iload 4, 2) := by decide +kernel
theorem dX10_road_25 : decode cX10_road 25 = .ok (.invokestatic 56, 3) := by decide +kernel
theorem dX10_road_28 : decode cX10_road 28 = .ok (.ifCond .ne 6, 3) := by decide +kernel
theorem dX10_road_31 : decode cX10_road 31 = .ok (.bipush (-2), 2) := by decide +kernel
theorem dX10_road_33 : decode cX10_road 33 = .ok (.ireturn, 1) := by decide +kernel
theorem dX10_road_34 : decode cX10_road 34 = .ok (.iload 5, 2) := by decide +kernel
theorem dX10_road_36 : decode cX10_road 36 = .ok (.iconst (-1), 1) := by decide +kernel
theorem dX10_road_37 : decode cX10_road 37 = .ok (.if_icmp .ge 6, 3) := by decide +kernel
theorem dX10_road_40 : decode cX10_road 40 = .ok (.bipush (-3), 2) := by decide +kernel
theorem dX10_road_42 : decode cX10_road 42 = .ok (.ireturn, 1) := by decide +kernel
theorem dX10_road_43 : decode cX10_road 43 = .ok (.aload_n 0, 1) := by decide +kernel
theorem dX10_road_44 : decode cX10_road 44 = .ok (.iload_n 1, 1) := by decide +kernel
theorem dX10_road_45 : decode cX10_road 45 = .ok (.iload_n 2, 1) := by decide +kernel
theorem dX10_road_46 : decode cX10_road 46 = .ok (.iload_n 3, 1) := by decide +kernel
theorem dX10_road_47 : decode cX10_road 47 = .ok (.iload 4, 2) := by decide +kernel
theorem dX10_road_49 : decode cX10_road 49 = .ok (.invokevirtual 280, 3) := by decide +kernel
theorem dX10_road_52 : decode cX10_road 52 = .ok (.istore 6, 2) := by decide +kernel
theorem dX10_road_54 : decode cX10_road 54 = .ok (.iload 5, 2) := by decide +kernel
theorem dX10_road_56 : decode cX10_road 56 = .ok (.iconst (-1), 1) := by decide +kernel
theorem dX10_road_57 : decode cX10_road 57 = .ok (.if_icmp .ne 8, 3) := by decide +kernel
theorem dX10_road_60 : decode cX10_road 60 = .ok (.iload 6, 2) := by decide +kernel
theorem dX10_road_62 : decode cX10_road 62 = .ok (.goto 21, 3) := by decide +kernel
theorem dX10_road_65 : decode cX10_road 65 = .ok (.iload 5, 2) := by decide +kernel
theorem dX10_road_67 : decode cX10_road 67 = .ok (.iload 6, 2) := by decide +kernel
theorem dX10_road_69 : decode cX10_road 69 = .ok (.if_icmp .ge 13, 3) := by decide +kernel
theorem dX10_road_72 : decode cX10_road 72 = .ok (.aload_n 0, 1) := by decide +kernel
theorem dX10_road_73 : decode cX10_road 73 = .ok (.getfield 44, 3) := by decide +kernel
theorem dX10_road_76 : decode cX10_road 76 = .ok (.iload 5, 2) := by decide +kernel
theorem dX10_road_78 : decode cX10_road 78 = .ok (.iaload, 1) := by decide +kernel
theorem dX10_road_79 : decode cX10_road 79 = .ok (.goto 4, 3) := by decide +kernel
theorem dX10_road_82 : decode cX10_road 82 = .ok (.iconst (-1), 1) := by decide +kernel
theorem dX10_road_83 : decode cX10_road 83 = .ok (.ireturn, 1) := by decide +kernel
set_option maxRecDepth 100000 in
theorem B_X10_road_0 {d : Nat} {h : AbH} {K : Option AbV → AbH → Prop} {x0 : Nat} {x1 : Int} {x2 : Int} {x3 : Int} {x4 : Int} {x5 : Int} (hh : wpCV h (some x0) 9 (fun b15 => Vm d m_X10_isLoan [vR (some b15), vI x1] h (kI (fun n2 h1 => ((n2 = 0 → K (some (vI (-2))) h1) ∧ (¬ (n2 = 0) → wpCV h1 (some x0) 9 (fun b14 => Vm d m_X10_isLoan [vR (some b14), vI x3] h1 (kI (fun n4 h3 => ((n4 = 0 → K (some (vI (-2))) h3) ∧ (¬ (n4 = 0) → Vm d m_X10_isTongue [vI x2] h3 (kI (fun n6 h5 => ((n6 = 0 → K (some (vI (-2))) h5) ∧ (¬ (n6 = 0) → Vm d m_X10_isTongue [vI x4] h5 (kI (fun n8 h7 => ((n8 ≠ 0 → (((-1) ≤ x5 → wpCV h7 (some x0) 9 (fun b13 => Vm d m_X10_roadOf [vR (some b13), vI x1, vI x2, vI x3, vI x4] h7 (kI (fun n10 h9 => ((x5 ≠ (-1) → ((n10 ≤ x5 → K (some (vI (-1))) h9) ∧ (¬ (n10 ≤ x5) → wpGR h9 (some x0) 9 20 (fun r11 => wpLI h9 r11 x5 (fun n12 => K (some (vI n12)) h9))))) ∧ (¬ (x5 ≠ (-1)) → K (some (vI n10)) h9)))))) ∧ (¬ ((-1) ≤ x5) → K (some (vI (-3))) h7))) ∧ (¬ (n8 ≠ 0) → K (some (vI (-2))) h7))))))))))))))))))) : Vx (d + 1) m_X10_road 0 0 0 [some (vR (some x0)), some (vI x1), some (vI x2), some (vI x3), some (vI x4), some (vI x5)] [] h K := by
  refine Vx.pad 1 [some (vR (some x0)), some (vI x1), some (vI x2), some (vI x3), some (vI x4), some (vI x5), none] rfl ?_
  refine rr_aload_n dX10_road_0 rfl rfl ?_
  refine rr_iload_n dX10_road_1 rfl rfl ?_
  refine rr_callW (bc' := 0) (bs' := 0) (q := (some x0)) (av := [vI x1]) (st := []) mf_X10_isLoan dX10_road_2 rfl q_982 q_984 qs_46 ⟨_, _, rfl⟩ rfl (by decide) (Nat.le_refl _) (Nat.le_refl _) hh (rr_kI fun n2 h1 hh => ?_)
  refine rr_if_eq (tgt := 31) dX10_road_5 rfl (by decide) (fun hc5 => ?_) (fun hc5 => ?_)
  · have hh := hh.1 hc5
    refine rr_bipush dX10_road_31 rfl ⟨by decide, by decide⟩ rfl ?_
    exact rr_iret dX10_road_33 rfl hh
  · have hh := hh.2 hc5
    refine rr_aload_n dX10_road_8 rfl rfl ?_
    refine rr_iload_n dX10_road_9 rfl rfl ?_
    refine rr_callW (bc' := 0) (bs' := 0) (q := (some x0)) (av := [vI x3]) (st := []) mf_X10_isLoan dX10_road_10 rfl q_982 q_984 qs_46 ⟨_, _, rfl⟩ rfl (by decide) (Nat.le_refl _) (Nat.le_refl _) hh (rr_kI fun n4 h3 hh => ?_)
    refine rr_if_eq (tgt := 31) dX10_road_13 rfl (by decide) (fun hc13 => ?_) (fun hc13 => ?_)
    · have hh := hh.1 hc13
      refine rr_bipush dX10_road_31 rfl ⟨by decide, by decide⟩ rfl ?_
      exact rr_iret dX10_road_33 rfl hh
    · have hh := hh.2 hc13
      refine rr_iload_n dX10_road_16 rfl rfl ?_
      refine rr_callS (bc' := 0) (bs' := 0) (av := [vI x2]) (st := []) mf_X10_isTongue dX10_road_17 rfl q_933 q_934 rfl (by decide) (Nat.le_refl _) (Nat.le_refl _) hh (rr_kI fun n6 h5 hh => ?_)
      refine rr_if_eq (tgt := 31) dX10_road_20 rfl (by decide) (fun hc20 => ?_) (fun hc20 => ?_)
      · have hh := hh.1 hc20
        refine rr_bipush dX10_road_31 rfl ⟨by decide, by decide⟩ rfl ?_
        exact rr_iret dX10_road_33 rfl hh
      · have hh := hh.2 hc20
        refine rr_iload dX10_road_23 rfl rfl ?_
        refine rr_callS (bc' := 0) (bs' := 0) (av := [vI x4]) (st := []) mf_X10_isTongue dX10_road_25 rfl q_933 q_934 rfl (by decide) (Nat.le_refl _) (Nat.le_refl _) hh (rr_kI fun n8 h7 hh => ?_)
        refine rr_if_ne (tgt := 34) dX10_road_28 rfl (by decide) (fun hc28 => ?_) (fun hc28 => ?_)
        · have hh := hh.1 hc28
          refine rr_iload dX10_road_34 rfl rfl ?_
          refine rr_iconst dX10_road_36 rfl ⟨by decide, by decide⟩ ?_
          refine rr_icmp_ge (tgt := 43) dX10_road_37 rfl (by decide) (fun hc37 => ?_) (fun hc37 => ?_)
          · have hh := hh.1 hc37
            refine rr_aload_n dX10_road_43 rfl rfl ?_
            refine rr_iload_n dX10_road_44 rfl rfl ?_
            refine rr_iload_n dX10_road_45 rfl rfl ?_
            refine rr_iload_n dX10_road_46 rfl rfl ?_
            refine rr_iload dX10_road_47 rfl rfl ?_
            refine rr_callW (bc' := 0) (bs' := 0) (q := (some x0)) (av := [vI x1, vI x2, vI x3, vI x4]) (st := []) mf_X10_roadOf dX10_road_49 rfl q_1111 q_1113 qs_64 ⟨_, _, rfl⟩ rfl (by decide) (Nat.le_refl _) (Nat.le_refl _) hh (rr_kI fun n10 h9 hh => ?_)
            refine rr_istore (ls' := [some (vR (some x0)), some (vI x1), some (vI x2), some (vI x3), some (vI x4), some (vI x5), some (vI n10)]) dX10_road_52 rfl (by decide) (fun _ z => by cases z) rfl ?_
            refine rr_iload dX10_road_54 rfl rfl ?_
            refine rr_iconst dX10_road_56 rfl ⟨by decide, by decide⟩ ?_
            refine rr_icmp_ne (tgt := 65) dX10_road_57 rfl (by decide) (fun hc57 => ?_) (fun hc57 => ?_)
            · have hh := hh.1 hc57
              refine rr_iload dX10_road_65 rfl rfl ?_
              refine rr_iload dX10_road_67 rfl rfl ?_
              refine rr_icmp_ge (tgt := 82) dX10_road_69 rfl (by decide) (fun hc69 => ?_) (fun hc69 => ?_)
              · have hh := hh.1 hc69
                refine rr_iconst dX10_road_82 rfl ⟨by decide, by decide⟩ ?_
                exact rr_iret dX10_road_83 rfl hh
              · have hh := hh.2 hc69
                refine rr_aload_n dX10_road_72 rfl rfl ?_
                refine rr_getR cf_X10 (j := 20) (by decide) dX10_road_73 rfl q_774 hh (fun r11 hh => ?_)
                refine rr_iload dX10_road_76 rfl rfl ?_
                refine rr_iald dX10_road_78 rfl hh (fun n12 hh => ?_)
                refine rr_goto (pc' := 83) dX10_road_79 (by decide) ?_
                exact rr_iret dX10_road_83 rfl hh
            · have hh := hh.2 hc57
              refine rr_iload dX10_road_60 rfl rfl ?_
              refine rr_goto (pc' := 83) dX10_road_62 (by decide) ?_
              exact rr_iret dX10_road_83 rfl hh
          · have hh := hh.2 hc37
            refine rr_bipush dX10_road_40 rfl ⟨by decide, by decide⟩ rfl ?_
            exact rr_iret dX10_road_42 rfl hh
        · have hh := hh.2 hc28
          refine rr_bipush dX10_road_31 rfl ⟨by decide, by decide⟩ rfl ?_
          exact rr_iret dX10_road_33 rfl hh
theorem dX10_ofKind_0 : decode cX10_ofKind 0 = .ok (.iconst 0, 1) := by decide +kernel
theorem dX10_ofKind_1 : decode cX10_ofKind 1 = .ok (.istore_n 2, 1) := by decide +kernel
theorem dX10_ofKind_2 : decode cX10_ofKind 2 = .ok (.iconst 0, 1) := by decide +kernel
theorem dX10_ofKind_3 : decode cX10_ofKind 3 = .ok (.istore_n 3, 1) := by decide +kernel
theorem dX10_ofKind_4 : decode cX10_ofKind 4 = .ok (.iload_n 3, 1) := by decide +kernel
theorem dX10_ofKind_5 : decode cX10_ofKind 5 = .ok (.aload_n 0, 1) := by decide +kernel
theorem dX10_ofKind_6 : decode cX10_ofKind 6 = .ok (.getfield 7, 3) := by decide +kernel
theorem dX10_ofKind_9 : decode cX10_ofKind 9 = .ok (.iconst 1, 1) := by decide +kernel
theorem dX10_ofKind_10 : decode cX10_ofKind 10 = .ok (.iaload, 1) := by decide +kernel
theorem dX10_ofKind_11 : decode cX10_ofKind 11 = .ok (.if_icmp .ge 26, 3) := by decide +kernel
theorem dX10_ofKind_14 : decode cX10_ofKind 14 = .ok (.iload_n 2, 1) := by decide +kernel
theorem dX10_ofKind_15 : decode cX10_ofKind 15 = .ok (.aload_n 0, 1) := by decide +kernel
theorem dX10_ofKind_16 : decode cX10_ofKind 16 = .ok (.iload_n 3, 1) := by decide +kernel
theorem dX10_ofKind_17 : decode cX10_ofKind 17 = .ok (.invokevirtual 246, 3) := by decide +kernel
theorem dX10_ofKind_20 : decode cX10_ofKind 20 = .ok (.iload_n 1, 1) := by decide +kernel
theorem dX10_ofKind_21 : decode cX10_ofKind 21 = .ok (.if_icmp .ne 7, 3) := by decide +kernel
theorem dX10_ofKind_24 : decode cX10_ofKind 24 = .ok (.iconst 1, 1) := by decide +kernel
theorem dX10_ofKind_25 : decode cX10_ofKind 25 = .ok (.goto 4, 3) := by decide +kernel
theorem dX10_ofKind_28 : decode cX10_ofKind 28 = .ok (.iconst 0, 1) := by decide +kernel
theorem dX10_ofKind_29 : decode cX10_ofKind 29 = .ok (.iadd, 1) := by decide +kernel
theorem dX10_ofKind_30 : decode cX10_ofKind 30 = .ok (.istore_n 2, 1) := by decide +kernel
theorem dX10_ofKind_31 : decode cX10_ofKind 31 = .ok (.iinc 3 1, 3) := by decide +kernel
theorem dX10_ofKind_34 : decode cX10_ofKind 34 = .ok (.goto (-30), 3) := by decide +kernel
theorem dX10_ofKind_37 : decode cX10_ofKind 37 = .ok (.iload_n 2, 1) := by decide +kernel
theorem dX10_ofKind_38 : decode cX10_ofKind 38 = .ok (.ireturn, 1) := by decide +kernel
set_option maxRecDepth 100000 in
theorem B_X10_ofKind_0 {d : Nat} {h : AbH} {K : Option AbV → AbH → Prop} {x0 : Nat} {x1 : Int} (hh : Vx (d + 1) m_X10_ofKind 0 0 4 [some (vR (some x0)), some (vI x1), some (vI 0), some (vI 0)] [] h K) : Vx (d + 1) m_X10_ofKind 0 0 0 [some (vR (some x0)), some (vI x1)] [] h K := by
  refine Vx.pad 2 [some (vR (some x0)), some (vI x1), none, none] rfl ?_
  refine rr_iconst dX10_ofKind_0 rfl ⟨by decide, by decide⟩ ?_
  refine rr_istore_n (ls' := [some (vR (some x0)), some (vI x1), some (vI 0), none]) dX10_ofKind_1 rfl (by decide) (fun _ z => by cases z) rfl ?_
  refine rr_iconst dX10_ofKind_2 rfl ⟨by decide, by decide⟩ ?_
  refine rr_istore_n (ls' := [some (vR (some x0)), some (vI x1), some (vI 0), some (vI 0)]) dX10_ofKind_3 rfl (by decide) (fun _ z => by cases z) rfl ?_
  exact hh
set_option maxRecDepth 100000 in
theorem B_X10_ofKind_4 {d : Nat} {h : AbH} {K : Option AbV → AbH → Prop} {x0 : Nat} {x1 : Int} {x2 : Int} {x3 : Int} {bc bs : Nat} (hh : wpGR h (some x0) 9 0 (fun r1 => wpLI h r1 1 (fun n2 => ((n2 ≤ x3 → K (some (vI x2)) h) ∧ (¬ (n2 ≤ x3) → wpCV h (some x0) 9 (fun b9 => Vm d m_X10_kind [vR (some b9), vI x3] h (kI (fun n4 h3 => ((n4 ≠ x1 → in32 (x2 + 0) ∧ in32 (x3 + 1) ∧ Vx (d + 1) m_X10_ofKind bc bs 4 [some (vR (some x0)), some (vI x1), some (vI (x2 + 0)), some (vI (x3 + 1))] [] h3 K) ∧ (¬ (n4 ≠ x1) → in32 (x2 + 1) ∧ in32 (x3 + 1) ∧ Vx (d + 1) m_X10_ofKind bc bs 4 [some (vR (some x0)), some (vI x1), some (vI (x2 + 1)), some (vI (x3 + 1))] [] h3 K)))))))))) : Vx (d + 1) m_X10_ofKind bc bs 4 [some (vR (some x0)), some (vI x1), some (vI x2), some (vI x3)] [] h K := by
  refine rr_iload_n dX10_ofKind_4 rfl rfl ?_
  refine rr_aload_n dX10_ofKind_5 rfl rfl ?_
  refine rr_getR cf_X10 (j := 0) (by decide) dX10_ofKind_6 rfl q_754 hh (fun r1 hh => ?_)
  refine rr_iconst dX10_ofKind_9 rfl ⟨by decide, by decide⟩ ?_
  refine rr_iald dX10_ofKind_10 rfl hh (fun n2 hh => ?_)
  refine rr_icmp_ge (tgt := 37) dX10_ofKind_11 rfl (by decide) (fun hc11 => ?_) (fun hc11 => ?_)
  · have hh := hh.1 hc11
    refine rr_iload_n dX10_ofKind_37 rfl rfl ?_
    exact rr_iret dX10_ofKind_38 rfl hh
  · have hh := hh.2 hc11
    refine rr_iload_n dX10_ofKind_14 rfl rfl ?_
    refine rr_aload_n dX10_ofKind_15 rfl rfl ?_
    refine rr_iload_n dX10_ofKind_16 rfl rfl ?_
    refine rr_callW (bc' := bc) (bs' := bs) (q := (some x0)) (av := [vI x3]) (st := [vI x2]) mf_X10_kind dX10_ofKind_17 rfl q_1035 q_1037 qs_52 ⟨_, _, rfl⟩ rfl (show 1 ≤ 8 by decide) (Nat.le_refl _) (Nat.le_refl _) hh (rr_kI fun n4 h3 hh => ?_)
    refine rr_iload_n dX10_ofKind_20 rfl rfl ?_
    refine rr_icmp_ne (tgt := 28) dX10_ofKind_21 rfl (by decide) (fun hc21 => ?_) (fun hc21 => ?_)
    · have hh := hh.1 hc21
      refine rr_iconst dX10_ofKind_28 rfl ⟨by decide, by decide⟩ ?_
      obtain ⟨hz5, hh⟩ := hh
      refine rr_iadd dX10_ofKind_29 rfl hz5 ?_
      refine rr_istore_n (ls' := [some (vR (some x0)), some (vI x1), some (vI (x2 + 0)), some (vI x3)]) dX10_ofKind_30 rfl (by decide) (fun _ z => by cases z) rfl ?_
      obtain ⟨hz6, hh⟩ := hh
      refine rr_iinc (ls' := [some (vR (some x0)), some (vI x1), some (vI (x2 + 0)), some (vI (x3 + 1))]) dX10_ofKind_31 rfl rfl (by decide) (fun _ z => by cases z) hz6 rfl ?_
      refine rr_goto (pc' := 4) dX10_ofKind_34 (by decide) ?_
      exact hh
    · have hh := hh.2 hc21
      refine rr_iconst dX10_ofKind_24 rfl ⟨by decide, by decide⟩ ?_
      refine rr_goto (pc' := 29) dX10_ofKind_25 (by decide) ?_
      obtain ⟨hz7, hh⟩ := hh
      refine rr_iadd dX10_ofKind_29 rfl hz7 ?_
      refine rr_istore_n (ls' := [some (vR (some x0)), some (vI x1), some (vI (x2 + 1)), some (vI x3)]) dX10_ofKind_30 rfl (by decide) (fun _ z => by cases z) rfl ?_
      obtain ⟨hz8, hh⟩ := hh
      refine rr_iinc (ls' := [some (vR (some x0)), some (vI x1), some (vI (x2 + 1)), some (vI (x3 + 1))]) dX10_ofKind_31 rfl rfl (by decide) (fun _ z => by cases z) hz8 rfl ?_
      refine rr_goto (pc' := 4) dX10_ofKind_34 (by decide) ?_
      exact hh
theorem dX10_greatestLayer_0 : decode cX10_greatestLayer 0 = .ok (.aload_n 0, 1) := by decide +kernel
theorem dX10_greatestLayer_1 : decode cX10_greatestLayer 1 = .ok (.invokevirtual 252, 3) := by decide +kernel
theorem dX10_greatestLayer_4 : decode cX10_greatestLayer 4 = .ok (.iconst 0, 1) := by decide +kernel
theorem dX10_greatestLayer_5 : decode cX10_greatestLayer 5 = .ok (.istore_n 1, 1) := by decide +kernel
theorem dX10_greatestLayer_6 : decode cX10_greatestLayer 6 = .ok (.iconst 0, 1) := by decide +kernel
theorem dX10_greatestLayer_7 : decode cX10_greatestLayer 7 = .ok (.istore_n 2, 1) := by decide +kernel
theorem dX10_greatestLayer_8 : decode cX10_greatestLayer 8 = .ok (.iload_n 2, 1) := by decide +kernel
theorem dX10_greatestLayer_9 : decode cX10_greatestLayer 9 = .ok (.aload_n 0, 1) := by decide +kernel
theorem dX10_greatestLayer_10 : decode cX10_greatestLayer 10 = .ok (.getfield 7, 3) := by decide +kernel
theorem dX10_greatestLayer_13 : decode cX10_greatestLayer 13 = .ok (.iconst 1, 1) := by decide +kernel
theorem dX10_greatestLayer_14 : decode cX10_greatestLayer 14 = .ok (.iaload, 1) := by decide +kernel
theorem dX10_greatestLayer_15 : decode cX10_greatestLayer 15 = .ok (.if_icmp .ge 30, 3) := by decide +kernel
theorem dX10_greatestLayer_18 : decode cX10_greatestLayer 18 = .ok (.aload_n 0, 1) := by decide +kernel
theorem dX10_greatestLayer_19 : decode cX10_greatestLayer 19 = .ok (.getfield 41, 3) := by decide +kernel
theorem dX10_greatestLayer_22 : decode cX10_greatestLayer 22 = .ok (.iload_n 2, 1) := by decide +kernel
theorem dX10_greatestLayer_23 : decode cX10_greatestLayer 23 = .ok (.iaload, 1) := by decide +kernel
theorem dX10_greatestLayer_24 : decode cX10_greatestLayer 24 = .ok (.iload_n 1, 1) := by decide +kernel
theorem dX10_greatestLayer_25 : decode cX10_greatestLayer 25 = .ok (.if_icmp .le 12, 3) := by decide +kernel
theorem dX10_greatestLayer_28 : decode cX10_greatestLayer 28 = .ok (.aload_n 0, 1) := by decide +kernel
theorem dX10_greatestLayer_29 : decode cX10_greatestLayer 29 = .ok (.getfield 41, 3) := by decide +kernel
theorem dX10_greatestLayer_32 : decode cX10_greatestLayer 32 = .ok (.iload_n 2, 1) := by decide +kernel
theorem dX10_greatestLayer_33 : decode cX10_greatestLayer 33 = .ok (.iaload, 1) := by decide +kernel
theorem dX10_greatestLayer_34 : decode cX10_greatestLayer 34 = .ok (.goto 4, 3) := by decide +kernel
theorem dX10_greatestLayer_37 : decode cX10_greatestLayer 37 = .ok (.iload_n 1, 1) := by decide +kernel
theorem dX10_greatestLayer_38 : decode cX10_greatestLayer 38 = .ok (.istore_n 1, 1) := by decide +kernel
theorem dX10_greatestLayer_39 : decode cX10_greatestLayer 39 = .ok (.iinc 2 1, 3) := by decide +kernel
theorem dX10_greatestLayer_42 : decode cX10_greatestLayer 42 = .ok (.goto (-34), 3) := by decide +kernel
theorem dX10_greatestLayer_45 : decode cX10_greatestLayer 45 = .ok (.iload_n 1, 1) := by decide +kernel
theorem dX10_greatestLayer_46 : decode cX10_greatestLayer 46 = .ok (.ireturn, 1) := by decide +kernel
set_option maxRecDepth 100000 in
theorem B_X10_greatestLayer_0 {d : Nat} {h : AbH} {K : Option AbV → AbH → Prop} {x0 : Nat} (hh : wpCV h (some x0) 9 (fun b2 => Vm d m_X10_finds [vR (some b2)] h (kV (fun h1 => Vx (d + 1) m_X10_greatestLayer 0 0 8 [some (vR (some x0)), some (vI 0), some (vI 0)] [] h1 K)))) : Vx (d + 1) m_X10_greatestLayer 0 0 0 [some (vR (some x0))] [] h K := by
  refine Vx.pad 2 [some (vR (some x0)), none, none] rfl ?_
  refine rr_aload_n dX10_greatestLayer_0 rfl rfl ?_
  refine rr_callW (bc' := 0) (bs' := 0) (q := (some x0)) (av := []) (st := []) mf_X10_finds dX10_greatestLayer_1 rfl q_1067 q_1069 qs_60 ⟨_, _, rfl⟩ rfl (by decide) (Nat.le_refl _) (Nat.le_refl _) hh (rr_kV fun h1 hh => ?_)
  refine rr_iconst dX10_greatestLayer_4 rfl ⟨by decide, by decide⟩ ?_
  refine rr_istore_n (ls' := [some (vR (some x0)), some (vI 0), none]) dX10_greatestLayer_5 rfl (by decide) (fun _ z => by cases z) rfl ?_
  refine rr_iconst dX10_greatestLayer_6 rfl ⟨by decide, by decide⟩ ?_
  refine rr_istore_n (ls' := [some (vR (some x0)), some (vI 0), some (vI 0)]) dX10_greatestLayer_7 rfl (by decide) (fun _ z => by cases z) rfl ?_
  exact hh
set_option maxRecDepth 100000 in
theorem B_X10_greatestLayer_8 {d : Nat} {h : AbH} {K : Option AbV → AbH → Prop} {x0 : Nat} {x1 : Int} {x2 : Int} {bc bs : Nat} (hh : wpGR h (some x0) 9 0 (fun r1 => wpLI h r1 1 (fun n2 => ((n2 ≤ x2 → K (some (vI x1)) h) ∧ (¬ (n2 ≤ x2) → wpGR h (some x0) 9 19 (fun r3 => wpLI h r3 x2 (fun n4 => ((n4 ≤ x1 → in32 (x2 + 1) ∧ Vx (d + 1) m_X10_greatestLayer bc bs 8 [some (vR (some x0)), some (vI x1), some (vI (x2 + 1))] [] h K) ∧ (¬ (n4 ≤ x1) → wpGR h (some x0) 9 19 (fun r6 => wpLI h r6 x2 (fun n7 => in32 (x2 + 1) ∧ Vx (d + 1) m_X10_greatestLayer bc bs 8 [some (vR (some x0)), some (vI n7), some (vI (x2 + 1))] [] h K))))))))))) : Vx (d + 1) m_X10_greatestLayer bc bs 8 [some (vR (some x0)), some (vI x1), some (vI x2)] [] h K := by
  refine rr_iload_n dX10_greatestLayer_8 rfl rfl ?_
  refine rr_aload_n dX10_greatestLayer_9 rfl rfl ?_
  refine rr_getR cf_X10 (j := 0) (by decide) dX10_greatestLayer_10 rfl q_754 hh (fun r1 hh => ?_)
  refine rr_iconst dX10_greatestLayer_13 rfl ⟨by decide, by decide⟩ ?_
  refine rr_iald dX10_greatestLayer_14 rfl hh (fun n2 hh => ?_)
  refine rr_icmp_ge (tgt := 45) dX10_greatestLayer_15 rfl (by decide) (fun hc15 => ?_) (fun hc15 => ?_)
  · have hh := hh.1 hc15
    refine rr_iload_n dX10_greatestLayer_45 rfl rfl ?_
    exact rr_iret dX10_greatestLayer_46 rfl hh
  · have hh := hh.2 hc15
    refine rr_aload_n dX10_greatestLayer_18 rfl rfl ?_
    refine rr_getR cf_X10 (j := 19) (by decide) dX10_greatestLayer_19 rfl q_773 hh (fun r3 hh => ?_)
    refine rr_iload_n dX10_greatestLayer_22 rfl rfl ?_
    refine rr_iald dX10_greatestLayer_23 rfl hh (fun n4 hh => ?_)
    refine rr_iload_n dX10_greatestLayer_24 rfl rfl ?_
    refine rr_icmp_le (tgt := 37) dX10_greatestLayer_25 rfl (by decide) (fun hc25 => ?_) (fun hc25 => ?_)
    · have hh := hh.1 hc25
      refine rr_iload_n dX10_greatestLayer_37 rfl rfl ?_
      refine rr_istore_n (ls' := [some (vR (some x0)), some (vI x1), some (vI x2)]) dX10_greatestLayer_38 rfl (by decide) (fun _ z => by cases z) rfl ?_
      obtain ⟨hz5, hh⟩ := hh
      refine rr_iinc (ls' := [some (vR (some x0)), some (vI x1), some (vI (x2 + 1))]) dX10_greatestLayer_39 rfl rfl (by decide) (fun _ z => by cases z) hz5 rfl ?_
      refine rr_goto (pc' := 8) dX10_greatestLayer_42 (by decide) ?_
      exact hh
    · have hh := hh.2 hc25
      refine rr_aload_n dX10_greatestLayer_28 rfl rfl ?_
      refine rr_getR cf_X10 (j := 19) (by decide) dX10_greatestLayer_29 rfl q_773 hh (fun r6 hh => ?_)
      refine rr_iload_n dX10_greatestLayer_32 rfl rfl ?_
      refine rr_iald dX10_greatestLayer_33 rfl hh (fun n7 hh => ?_)
      refine rr_goto (pc' := 38) dX10_greatestLayer_34 (by decide) ?_
      refine rr_istore_n (ls' := [some (vR (some x0)), some (vI n7), some (vI x2)]) dX10_greatestLayer_38 rfl (by decide) (fun _ z => by cases z) rfl ?_
      obtain ⟨hz8, hh⟩ := hh
      refine rr_iinc (ls' := [some (vR (some x0)), some (vI n7), some (vI (x2 + 1))]) dX10_greatestLayer_39 rfl rfl (by decide) (fun _ z => by cases z) hz8 rfl ?_
      refine rr_goto (pc' := 8) dX10_greatestLayer_42 (by decide) ?_
      exact hh
theorem dX10_lawsOf_0 : decode cX10_lawsOf 0 = .ok (.iconst 0, 1) := by decide +kernel
theorem dX10_lawsOf_1 : decode cX10_lawsOf 1 = .ok (.istore_n 2, 1) := by decide +kernel
theorem dX10_lawsOf_2 : decode cX10_lawsOf 2 = .ok (.iconst 0, 1) := by decide +kernel
theorem dX10_lawsOf_3 : decode cX10_lawsOf 3 = .ok (.istore_n 3, 1) := by decide +kernel
theorem dX10_lawsOf_4 : decode cX10_lawsOf 4 = .ok (.iload_n 3, 1) := by decide +kernel
theorem dX10_lawsOf_5 : decode cX10_lawsOf 5 = .ok (.aload_n 0, 1) := by decide +kernel
theorem dX10_lawsOf_6 : decode cX10_lawsOf 6 = .ok (.getfield 7, 3) := by decide +kernel
theorem dX10_lawsOf_9 : decode cX10_lawsOf 9 = .ok (.iconst 0, 1) := by decide +kernel
theorem dX10_lawsOf_10 : decode cX10_lawsOf 10 = .ok (.iaload, 1) := by decide +kernel
theorem dX10_lawsOf_11 : decode cX10_lawsOf 11 = .ok (.if_icmp .ge 27, 3) := by decide +kernel
theorem dX10_lawsOf_14 : decode cX10_lawsOf 14 = .ok (.iload_n 2, 1) := by decide +kernel
theorem dX10_lawsOf_15 : decode cX10_lawsOf 15 = .ok (.aload_n 0, 1) := by decide +kernel
theorem dX10_lawsOf_16 : decode cX10_lawsOf 16 = .ok (.iload_n 3, 1) := by decide +kernel
theorem dX10_lawsOf_17 : decode cX10_lawsOf 17 = .ok (.iconst 0, 1) := by decide +kernel
theorem dX10_lawsOf_18 : decode cX10_lawsOf 18 = .ok (.invokevirtual 156, 3) := by decide +kernel
theorem dX10_lawsOf_21 : decode cX10_lawsOf 21 = .ok (.iload_n 1, 1) := by decide +kernel
theorem dX10_lawsOf_22 : decode cX10_lawsOf 22 = .ok (.if_icmp .ne 7, 3) := by decide +kernel
theorem dX10_lawsOf_25 : decode cX10_lawsOf 25 = .ok (.iconst 1, 1) := by decide +kernel
theorem dX10_lawsOf_26 : decode cX10_lawsOf 26 = .ok (.goto 4, 3) := by decide +kernel
theorem dX10_lawsOf_29 : decode cX10_lawsOf 29 = .ok (.iconst 0, 1) := by decide +kernel
theorem dX10_lawsOf_30 : decode cX10_lawsOf 30 = .ok (.iadd, 1) := by decide +kernel
theorem dX10_lawsOf_31 : decode cX10_lawsOf 31 = .ok (.istore_n 2, 1) := by decide +kernel
theorem dX10_lawsOf_32 : decode cX10_lawsOf 32 = .ok (.iinc 3 1, 3) := by decide +kernel
theorem dX10_lawsOf_35 : decode cX10_lawsOf 35 = .ok (.goto (-31), 3) := by decide +kernel
theorem dX10_lawsOf_38 : decode cX10_lawsOf 38 = .ok (.iload_n 2, 1) := by decide +kernel
theorem dX10_lawsOf_39 : decode cX10_lawsOf 39 = .ok (.ireturn, 1) := by decide +kernel
set_option maxRecDepth 100000 in
theorem B_X10_lawsOf_0 {d : Nat} {h : AbH} {K : Option AbV → AbH → Prop} {x0 : Nat} {x1 : Int} (hh : Vx (d + 1) m_X10_lawsOf 0 0 4 [some (vR (some x0)), some (vI x1), some (vI 0), some (vI 0)] [] h K) : Vx (d + 1) m_X10_lawsOf 0 0 0 [some (vR (some x0)), some (vI x1)] [] h K := by
  refine Vx.pad 2 [some (vR (some x0)), some (vI x1), none, none] rfl ?_
  refine rr_iconst dX10_lawsOf_0 rfl ⟨by decide, by decide⟩ ?_
  refine rr_istore_n (ls' := [some (vR (some x0)), some (vI x1), some (vI 0), none]) dX10_lawsOf_1 rfl (by decide) (fun _ z => by cases z) rfl ?_
  refine rr_iconst dX10_lawsOf_2 rfl ⟨by decide, by decide⟩ ?_
  refine rr_istore_n (ls' := [some (vR (some x0)), some (vI x1), some (vI 0), some (vI 0)]) dX10_lawsOf_3 rfl (by decide) (fun _ z => by cases z) rfl ?_
  exact hh
set_option maxRecDepth 100000 in
theorem B_X10_lawsOf_4 {d : Nat} {h : AbH} {K : Option AbV → AbH → Prop} {x0 : Nat} {x1 : Int} {x2 : Int} {x3 : Int} {bc bs : Nat} (hh : wpGR h (some x0) 9 0 (fun r1 => wpLI h r1 0 (fun n2 => ((n2 ≤ x3 → K (some (vI x2)) h) ∧ (¬ (n2 ≤ x3) → wpCV h (some x0) 9 (fun b9 => Vm d m_X10_lawOf [vR (some b9), vI x3, vI 0] h (kI (fun n4 h3 => ((n4 ≠ x1 → in32 (x2 + 0) ∧ in32 (x3 + 1) ∧ Vx (d + 1) m_X10_lawsOf bc bs 4 [some (vR (some x0)), some (vI x1), some (vI (x2 + 0)), some (vI (x3 + 1))] [] h3 K) ∧ (¬ (n4 ≠ x1) → in32 (x2 + 1) ∧ in32 (x3 + 1) ∧ Vx (d + 1) m_X10_lawsOf bc bs 4 [some (vR (some x0)), some (vI x1), some (vI (x2 + 1)), some (vI (x3 + 1))] [] h3 K)))))))))) : Vx (d + 1) m_X10_lawsOf bc bs 4 [some (vR (some x0)), some (vI x1), some (vI x2), some (vI x3)] [] h K := by
  refine rr_iload_n dX10_lawsOf_4 rfl rfl ?_
  refine rr_aload_n dX10_lawsOf_5 rfl rfl ?_
  refine rr_getR cf_X10 (j := 0) (by decide) dX10_lawsOf_6 rfl q_754 hh (fun r1 hh => ?_)
  refine rr_iconst dX10_lawsOf_9 rfl ⟨by decide, by decide⟩ ?_
  refine rr_iald dX10_lawsOf_10 rfl hh (fun n2 hh => ?_)
  refine rr_icmp_ge (tgt := 38) dX10_lawsOf_11 rfl (by decide) (fun hc11 => ?_) (fun hc11 => ?_)
  · have hh := hh.1 hc11
    refine rr_iload_n dX10_lawsOf_38 rfl rfl ?_
    exact rr_iret dX10_lawsOf_39 rfl hh
  · have hh := hh.2 hc11
    refine rr_iload_n dX10_lawsOf_14 rfl rfl ?_
    refine rr_aload_n dX10_lawsOf_15 rfl rfl ?_
    refine rr_iload_n dX10_lawsOf_16 rfl rfl ?_
    refine rr_iconst dX10_lawsOf_17 rfl ⟨by decide, by decide⟩ ?_
    refine rr_callW (bc' := bc) (bs' := bs) (q := (some x0)) (av := [vI x3, vI 0]) (st := [vI x2]) mf_X10_lawOf dX10_lawsOf_18 rfl q_848 q_850 qs_26 ⟨_, _, rfl⟩ rfl (show 1 ≤ 8 by decide) (Nat.le_refl _) (Nat.le_refl _) hh (rr_kI fun n4 h3 hh => ?_)
    refine rr_iload_n dX10_lawsOf_21 rfl rfl ?_
    refine rr_icmp_ne (tgt := 29) dX10_lawsOf_22 rfl (by decide) (fun hc22 => ?_) (fun hc22 => ?_)
    · have hh := hh.1 hc22
      refine rr_iconst dX10_lawsOf_29 rfl ⟨by decide, by decide⟩ ?_
      obtain ⟨hz5, hh⟩ := hh
      refine rr_iadd dX10_lawsOf_30 rfl hz5 ?_
      refine rr_istore_n (ls' := [some (vR (some x0)), some (vI x1), some (vI (x2 + 0)), some (vI x3)]) dX10_lawsOf_31 rfl (by decide) (fun _ z => by cases z) rfl ?_
      obtain ⟨hz6, hh⟩ := hh
      refine rr_iinc (ls' := [some (vR (some x0)), some (vI x1), some (vI (x2 + 0)), some (vI (x3 + 1))]) dX10_lawsOf_32 rfl rfl (by decide) (fun _ z => by cases z) hz6 rfl ?_
      refine rr_goto (pc' := 4) dX10_lawsOf_35 (by decide) ?_
      exact hh
    · have hh := hh.2 hc22
      refine rr_iconst dX10_lawsOf_25 rfl ⟨by decide, by decide⟩ ?_
      refine rr_goto (pc' := 30) dX10_lawsOf_26 (by decide) ?_
      obtain ⟨hz7, hh⟩ := hh
      refine rr_iadd dX10_lawsOf_30 rfl hz7 ?_
      refine rr_istore_n (ls' := [some (vR (some x0)), some (vI x1), some (vI (x2 + 1)), some (vI x3)]) dX10_lawsOf_31 rfl (by decide) (fun _ z => by cases z) rfl ?_
      obtain ⟨hz8, hh⟩ := hh
      refine rr_iinc (ls' := [some (vR (some x0)), some (vI x1), some (vI (x2 + 1)), some (vI (x3 + 1))]) dX10_lawsOf_32 rfl rfl (by decide) (fun _ z => by cases z) hz8 rfl ?_
      refine rr_goto (pc' := 4) dX10_lawsOf_35 (by decide) ?_
      exact hh
theorem dX10_count_0 : decode cX10_count 0 = .ok (.iload_n 1, 1) := by decide +kernel
theorem dX10_count_1 : decode cX10_count 1 = .ok (.tableswitch 118 0 12 #[67, 74, 79, 86, 86, 86, 94, 99, 104, 109, 109, 109, 109], 67) := by decide +kernel
theorem dX10_count_68 : decode cX10_count 68 = .ok (.aload_n 0, 1) := by decide +kernel
theorem dX10_count_69 : decode cX10_count 69 = .ok (.getfield 7, 3) := by decide +kernel
theorem dX10_count_72 : decode cX10_count 72 = .ok (.iconst 0, 1) := by decide +kernel
theorem dX10_count_73 : decode cX10_count 73 = .ok (.iaload, 1) := by decide +kernel
theorem dX10_count_74 : decode cX10_count 74 = .ok (.ireturn, 1) := by decide +kernel
theorem dX10_count_75 : decode cX10_count 75 = .ok (.aload_n 0, 1) := by decide +kernel
theorem dX10_count_76 : decode cX10_count 76 = .ok (.invokevirtual 238, 3) := by decide +kernel
theorem dX10_count_79 : decode cX10_count 79 = .ok (.ireturn, 1) := by decide +kernel
theorem dX10_count_80 : decode cX10_count 80 = .ok (.aload_n 0, 1) := by decide +kernel
theorem dX10_count_81 : decode cX10_count 81 = .ok (.getfield 7, 3) := by decide +kernel
theorem dX10_count_84 : decode cX10_count 84 = .ok (.iconst 1, 1) := by decide +kernel
theorem dX10_count_85 : decode cX10_count 85 = .ok (.iaload, 1) := by decide +kernel
theorem dX10_count_86 : decode cX10_count 86 = .ok (.ireturn, 1) := by decide +kernel
theorem dX10_count_87 : decode cX10_count 87 = .ok (.aload_n 0, 1) := by decide +kernel
theorem dX10_count_88 : decode cX10_count 88 = .ok (.iload_n 1, 1) := by decide +kernel
theorem dX10_count_89 : decode cX10_count 89 = .ok (.iconst 3, 1) := by decide +kernel
theorem dX10_count_90 : decode cX10_count 90 = .ok (.isub, 1) := by decide +kernel
theorem dX10_count_91 : decode cX10_count 91 = .ok (.invokevirtual 284, 3) := by decide +kernel
theorem dX10_count_94 : decode cX10_count 94 = .ok (.ireturn, 1) := by decide +kernel
theorem dX10_count_95 : decode cX10_count 95 = .ok (.aload_n 0, 1) := by decide +kernel
theorem dX10_count_96 : decode cX10_count 96 = .ok (.invokevirtual 287, 3) := by decide +kernel
theorem dX10_count_99 : decode cX10_count 99 = .ok (.ireturn, 1) := by decide +kernel
theorem dX10_count_100 : decode cX10_count 100 = .ok (.aload_n 0, 1) := by decide +kernel
theorem dX10_count_101 : decode cX10_count 101 = .ok (.getfield 166, 3) := by decide +kernel
theorem dX10_count_104 : decode cX10_count 104 = .ok (.ireturn, 1) := by decide +kernel
theorem dX10_count_105 : decode cX10_count 105 = .ok (.aload_n 0, 1) := by decide +kernel
theorem dX10_count_106 : decode cX10_count 106 = .ok (.getfield 68, 3) := by decide +kernel
theorem dX10_count_109 : decode cX10_count 109 = .ok (.ireturn, 1) := by decide +kernel
theorem dX10_count_110 : decode cX10_count 110 = .ok (.aload_n 0, 1) := by decide +kernel
theorem dX10_count_111 : decode cX10_count 111 = .ok (.iload_n 1, 1) := by decide +kernel
theorem dX10_count_112 : decode cX10_count 112 = .ok (.bipush 9, 2) := by decide +kernel
theorem dX10_count_114 : decode cX10_count 114 = .ok (.isub, 1) := by decide +kernel
theorem dX10_count_115 : decode cX10_count 115 = .ok (.invokevirtual 290, 3) := by decide +kernel
theorem dX10_count_118 : decode cX10_count 118 = .ok (.ireturn, 1) := by decide +kernel
theorem dX10_count_119 : decode cX10_count 119 = .ok (.bipush (-3), 2) := by decide +kernel
theorem dX10_count_121 : decode cX10_count 121 = .ok (.ireturn, 1) := by decide +kernel
set_option maxRecDepth 100000 in
theorem B_X10_count_0 {d : Nat} {h : AbH} {K : Option AbV → AbH → Prop} {x0 : Nat} {x1 : Int} (hh : ((x1 = 0 → wpGR h (some x0) 9 0 (fun r1 => wpLI h r1 0 (fun n2 => K (some (vI n2)) h))) ∧ (x1 = 1 → wpCV h (some x0) 9 (fun b5 => Vm d m_X10_meetings [vR (some b5)] h (kI (fun n4 h3 => K (some (vI n4)) h3)))) ∧ (x1 = 2 → wpGR h (some x0) 9 0 (fun r6 => wpLI h r6 1 (fun n7 => K (some (vI n7)) h))) ∧ (x1 = 3 → in32 (x1 - 3) ∧ wpCV h (some x0) 9 (fun b11 => Vm d m_X10_ofKind [vR (some b11), vI (x1 - 3)] h (kI (fun n10 h9 => K (some (vI n10)) h9)))) ∧ (x1 = 4 → in32 (x1 - 3) ∧ wpCV h (some x0) 9 (fun b15 => Vm d m_X10_ofKind [vR (some b15), vI (x1 - 3)] h (kI (fun n14 h13 => K (some (vI n14)) h13)))) ∧ (x1 = 5 → in32 (x1 - 3) ∧ wpCV h (some x0) 9 (fun b19 => Vm d m_X10_ofKind [vR (some b19), vI (x1 - 3)] h (kI (fun n18 h17 => K (some (vI n18)) h17)))) ∧ (x1 = 6 → wpCV h (some x0) 9 (fun b22 => Vm d m_X10_greatestLayer [vR (some b22)] h (kI (fun n21 h20 => K (some (vI n21)) h20)))) ∧ (x1 = 7 → wpGI h (some x0) 9 1 (fun n23 => K (some (vI n23)) h)) ∧ (x1 = 8 → wpGI h (some x0) 9 4 (fun n24 => K (some (vI n24)) h)) ∧ (x1 = 9 → in32 (x1 - 9) ∧ wpCV h (some x0) 9 (fun b28 => Vm d m_X10_lawsOf [vR (some b28), vI (x1 - 9)] h (kI (fun n27 h26 => K (some (vI n27)) h26)))) ∧ (x1 = 10 → in32 (x1 - 9) ∧ wpCV h (some x0) 9 (fun b32 => Vm d m_X10_lawsOf [vR (some b32), vI (x1 - 9)] h (kI (fun n31 h30 => K (some (vI n31)) h30)))) ∧ (x1 = 11 → in32 (x1 - 9) ∧ wpCV h (some x0) 9 (fun b36 => Vm d m_X10_lawsOf [vR (some b36), vI (x1 - 9)] h (kI (fun n35 h34 => K (some (vI n35)) h34)))) ∧ (x1 = 12 → in32 (x1 - 9) ∧ wpCV h (some x0) 9 (fun b40 => Vm d m_X10_lawsOf [vR (some b40), vI (x1 - 9)] h (kI (fun n39 h38 => K (some (vI n39)) h38)))) ∧ ((x1 < 0 ∨ 12 < x1) → K (some (vI (-3))) h))) : Vx (d + 1) m_X10_count 0 0 0 [some (vR (some x0)), some (vI x1)] [] h K := by
  refine rr_iload_n dX10_count_0 rfl rfl ?_
  by_cases hz1_0 : x1 = 0
  · have hh := hh.1 hz1_0
    refine rr_tableIn (pc' := 68) 0 dX10_count_1 (by rw [hz1_0]; rfl) (by decide) rfl (by decide) ?_
    refine rr_aload_n dX10_count_68 rfl rfl ?_
    refine rr_getR cf_X10 (j := 0) (by decide) dX10_count_69 rfl q_754 hh (fun r1 hh => ?_)
    refine rr_iconst dX10_count_72 rfl ⟨by decide, by decide⟩ ?_
    refine rr_iald dX10_count_73 rfl hh (fun n2 hh => ?_)
    exact rr_iret dX10_count_74 rfl hh
  by_cases hz1_1 : x1 = 1
  · have hh := hh.2.1 hz1_1
    refine rr_tableIn (pc' := 75) 1 dX10_count_1 (by rw [hz1_1]; rfl) (by decide) rfl (by decide) ?_
    refine rr_aload_n dX10_count_75 rfl rfl ?_
    refine rr_callW (bc' := 0) (bs' := 0) (q := (some x0)) (av := []) (st := []) mf_X10_meetings dX10_count_76 rfl q_970 q_972 qs_45 ⟨_, _, rfl⟩ rfl (by decide) (Nat.le_refl _) (Nat.le_refl _) hh (rr_kI fun n4 h3 hh => ?_)
    exact rr_iret dX10_count_79 rfl hh
  by_cases hz1_2 : x1 = 2
  · have hh := hh.2.2.1 hz1_2
    refine rr_tableIn (pc' := 80) 2 dX10_count_1 (by rw [hz1_2]; rfl) (by decide) rfl (by decide) ?_
    refine rr_aload_n dX10_count_80 rfl rfl ?_
    refine rr_getR cf_X10 (j := 0) (by decide) dX10_count_81 rfl q_754 hh (fun r6 hh => ?_)
    refine rr_iconst dX10_count_84 rfl ⟨by decide, by decide⟩ ?_
    refine rr_iald dX10_count_85 rfl hh (fun n7 hh => ?_)
    exact rr_iret dX10_count_86 rfl hh
  by_cases hz1_3 : x1 = 3
  · have hh := hh.2.2.2.1 hz1_3
    refine rr_tableIn (pc' := 87) 3 dX10_count_1 (by rw [hz1_3]; rfl) (by decide) rfl (by decide) ?_
    refine rr_aload_n dX10_count_87 rfl rfl ?_
    refine rr_iload_n dX10_count_88 rfl rfl ?_
    refine rr_iconst dX10_count_89 rfl ⟨by decide, by decide⟩ ?_
    obtain ⟨hz8, hh⟩ := hh
    refine rr_isub dX10_count_90 rfl hz8 ?_
    refine rr_callW (bc' := 0) (bs' := 0) (q := (some x0)) (av := [vI (x1 - 3)]) (st := []) mf_X10_ofKind dX10_count_91 rfl q_1139 q_1141 qs_70 ⟨_, _, rfl⟩ rfl (by decide) (Nat.le_refl _) (Nat.le_refl _) hh (rr_kI fun n10 h9 hh => ?_)
    exact rr_iret dX10_count_94 rfl hh
  by_cases hz1_4 : x1 = 4
  · have hh := hh.2.2.2.2.1 hz1_4
    refine rr_tableIn (pc' := 87) 4 dX10_count_1 (by rw [hz1_4]; rfl) (by decide) rfl (by decide) ?_
    refine rr_aload_n dX10_count_87 rfl rfl ?_
    refine rr_iload_n dX10_count_88 rfl rfl ?_
    refine rr_iconst dX10_count_89 rfl ⟨by decide, by decide⟩ ?_
    obtain ⟨hz12, hh⟩ := hh
    refine rr_isub dX10_count_90 rfl hz12 ?_
    refine rr_callW (bc' := 0) (bs' := 0) (q := (some x0)) (av := [vI (x1 - 3)]) (st := []) mf_X10_ofKind dX10_count_91 rfl q_1139 q_1141 qs_70 ⟨_, _, rfl⟩ rfl (by decide) (Nat.le_refl _) (Nat.le_refl _) hh (rr_kI fun n14 h13 hh => ?_)
    exact rr_iret dX10_count_94 rfl hh
  by_cases hz1_5 : x1 = 5
  · have hh := hh.2.2.2.2.2.1 hz1_5
    refine rr_tableIn (pc' := 87) 5 dX10_count_1 (by rw [hz1_5]; rfl) (by decide) rfl (by decide) ?_
    refine rr_aload_n dX10_count_87 rfl rfl ?_
    refine rr_iload_n dX10_count_88 rfl rfl ?_
    refine rr_iconst dX10_count_89 rfl ⟨by decide, by decide⟩ ?_
    obtain ⟨hz16, hh⟩ := hh
    refine rr_isub dX10_count_90 rfl hz16 ?_
    refine rr_callW (bc' := 0) (bs' := 0) (q := (some x0)) (av := [vI (x1 - 3)]) (st := []) mf_X10_ofKind dX10_count_91 rfl q_1139 q_1141 qs_70 ⟨_, _, rfl⟩ rfl (by decide) (Nat.le_refl _) (Nat.le_refl _) hh (rr_kI fun n18 h17 hh => ?_)
    exact rr_iret dX10_count_94 rfl hh
  by_cases hz1_6 : x1 = 6
  · have hh := hh.2.2.2.2.2.2.1 hz1_6
    refine rr_tableIn (pc' := 95) 6 dX10_count_1 (by rw [hz1_6]; rfl) (by decide) rfl (by decide) ?_
    refine rr_aload_n dX10_count_95 rfl rfl ?_
    refine rr_callW (bc' := 0) (bs' := 0) (q := (some x0)) (av := []) (st := []) mf_X10_greatestLayer dX10_count_96 rfl q_1143 q_1145 qs_71 ⟨_, _, rfl⟩ rfl (by decide) (Nat.le_refl _) (Nat.le_refl _) hh (rr_kI fun n21 h20 hh => ?_)
    exact rr_iret dX10_count_99 rfl hh
  by_cases hz1_7 : x1 = 7
  · have hh := hh.2.2.2.2.2.2.2.1 hz1_7
    refine rr_tableIn (pc' := 100) 7 dX10_count_1 (by rw [hz1_7]; rfl) (by decide) rfl (by decide) ?_
    refine rr_aload_n dX10_count_100 rfl rfl ?_
    refine rr_getI cf_X10 (j := 1) (by decide) dX10_count_101 rfl q_755 hh (fun n23 hh => ?_)
    exact rr_iret dX10_count_104 rfl hh
  by_cases hz1_8 : x1 = 8
  · have hh := hh.2.2.2.2.2.2.2.2.1 hz1_8
    refine rr_tableIn (pc' := 105) 8 dX10_count_1 (by rw [hz1_8]; rfl) (by decide) rfl (by decide) ?_
    refine rr_aload_n dX10_count_105 rfl rfl ?_
    refine rr_getI cf_X10 (j := 4) (by decide) dX10_count_106 rfl q_758 hh (fun n24 hh => ?_)
    exact rr_iret dX10_count_109 rfl hh
  by_cases hz1_9 : x1 = 9
  · have hh := hh.2.2.2.2.2.2.2.2.2.1 hz1_9
    refine rr_tableIn (pc' := 110) 9 dX10_count_1 (by rw [hz1_9]; rfl) (by decide) rfl (by decide) ?_
    refine rr_aload_n dX10_count_110 rfl rfl ?_
    refine rr_iload_n dX10_count_111 rfl rfl ?_
    refine rr_bipush dX10_count_112 rfl ⟨by decide, by decide⟩ rfl ?_
    obtain ⟨hz25, hh⟩ := hh
    refine rr_isub dX10_count_114 rfl hz25 ?_
    refine rr_callW (bc' := 0) (bs' := 0) (q := (some x0)) (av := [vI (x1 - 9)]) (st := []) mf_X10_lawsOf dX10_count_115 rfl q_1147 q_1149 qs_72 ⟨_, _, rfl⟩ rfl (by decide) (Nat.le_refl _) (Nat.le_refl _) hh (rr_kI fun n27 h26 hh => ?_)
    exact rr_iret dX10_count_118 rfl hh
  by_cases hz1_10 : x1 = 10
  · have hh := hh.2.2.2.2.2.2.2.2.2.2.1 hz1_10
    refine rr_tableIn (pc' := 110) 10 dX10_count_1 (by rw [hz1_10]; rfl) (by decide) rfl (by decide) ?_
    refine rr_aload_n dX10_count_110 rfl rfl ?_
    refine rr_iload_n dX10_count_111 rfl rfl ?_
    refine rr_bipush dX10_count_112 rfl ⟨by decide, by decide⟩ rfl ?_
    obtain ⟨hz29, hh⟩ := hh
    refine rr_isub dX10_count_114 rfl hz29 ?_
    refine rr_callW (bc' := 0) (bs' := 0) (q := (some x0)) (av := [vI (x1 - 9)]) (st := []) mf_X10_lawsOf dX10_count_115 rfl q_1147 q_1149 qs_72 ⟨_, _, rfl⟩ rfl (by decide) (Nat.le_refl _) (Nat.le_refl _) hh (rr_kI fun n31 h30 hh => ?_)
    exact rr_iret dX10_count_118 rfl hh
  by_cases hz1_11 : x1 = 11
  · have hh := hh.2.2.2.2.2.2.2.2.2.2.2.1 hz1_11
    refine rr_tableIn (pc' := 110) 11 dX10_count_1 (by rw [hz1_11]; rfl) (by decide) rfl (by decide) ?_
    refine rr_aload_n dX10_count_110 rfl rfl ?_
    refine rr_iload_n dX10_count_111 rfl rfl ?_
    refine rr_bipush dX10_count_112 rfl ⟨by decide, by decide⟩ rfl ?_
    obtain ⟨hz33, hh⟩ := hh
    refine rr_isub dX10_count_114 rfl hz33 ?_
    refine rr_callW (bc' := 0) (bs' := 0) (q := (some x0)) (av := [vI (x1 - 9)]) (st := []) mf_X10_lawsOf dX10_count_115 rfl q_1147 q_1149 qs_72 ⟨_, _, rfl⟩ rfl (by decide) (Nat.le_refl _) (Nat.le_refl _) hh (rr_kI fun n35 h34 hh => ?_)
    exact rr_iret dX10_count_118 rfl hh
  by_cases hz1_12 : x1 = 12
  · have hh := hh.2.2.2.2.2.2.2.2.2.2.2.2.1 hz1_12
    refine rr_tableIn (pc' := 110) 12 dX10_count_1 (by rw [hz1_12]; rfl) (by decide) rfl (by decide) ?_
    refine rr_aload_n dX10_count_110 rfl rfl ?_
    refine rr_iload_n dX10_count_111 rfl rfl ?_
    refine rr_bipush dX10_count_112 rfl ⟨by decide, by decide⟩ rfl ?_
    obtain ⟨hz37, hh⟩ := hh
    refine rr_isub dX10_count_114 rfl hz37 ?_
    refine rr_callW (bc' := 0) (bs' := 0) (q := (some x0)) (av := [vI (x1 - 9)]) (st := []) mf_X10_lawsOf dX10_count_115 rfl q_1147 q_1149 qs_72 ⟨_, _, rfl⟩ rfl (by decide) (Nat.le_refl _) (Nat.le_refl _) hh (rr_kI fun n39 h38 hh => ?_)
    exact rr_iret dX10_count_118 rfl hh
  have hz1_o : x1 < 0 ∨ 12 < x1 := by omega
  have hh := hh.2.2.2.2.2.2.2.2.2.2.2.2.2 hz1_o
  refine rr_tableOut (pc' := 119) dX10_count_1 hz1_o (by decide) ?_
  refine rr_bipush dX10_count_119 rfl ⟨by decide, by decide⟩ rfl ?_
  exact rr_iret dX10_count_121 rfl hh
