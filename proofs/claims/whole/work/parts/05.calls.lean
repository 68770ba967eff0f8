def ab_df : FieldType → AbV
  | .int => vI 0
  | .boolean => vI 0
  | .long => vL 0
  | _ => vR none
theorem rr_new {d : Nat} {md : AbM} {bc bs pc pc' : Nat} {ls : List (Option AbV)} {st : List AbV} {h : AbH} {K : Option AbV → AbH → Prop} {bc' bs' ci N i : Nat} {C : String} {T : u_T} {ty : Nat → FieldType} {fs : List AbV} (cf : ClF ci C T N ty) (hd : decode (mC md) pc = .ok (.new i, 3)) (hp : pc + 3 = pc') (hw : Cond.classLink (mY md).cls i C ∈ lwW) (hi : Cond.instantiable C N ∈ lwW) (hz : Cond.initialized C ∈ lwW) (hfs : ∀ j, j < N → defaultValue (ty j) = vp_V (fs.map ab_cv) j) (hok : ∀ v ∈ fs, ab_ok v) (hbc1 : bc' + 1 ≤ bc) (hbs1 : bs' + N ≤ bs) (k : ∀ q, ab_new h q → Vx d md bc' bs' pc' ls (vR (some q) :: st) (hsO h q (ci, fs)) K) : Vx d md bc bs pc ls st h K := by
  intro l G p e R s m args below meth c H locs cells slots lsr C9 hL hst hls hR hlo hbc hbs
  have C0 := C9
  obtain ⟨hx, hb, hml, hret, hown, hts, hlk, hnm, hKn, hd1, hd2, hRc, hRs⟩ := C0
  subst hp
  have hKc := hKn.1.1 ci _ cf.1
  refine W.newcK hx hb hown (hts _ hw) (hts _ hi) (hts _ hz) rfl hd (by rw [hRc]; omega) (by rw [hRs]; omega) hKc.2.1 rfl fun H1 kC hkC e1 z1 o1 => ?_
  have hN : (gH G).size ≤ H.size := hR.2.2.2.2.1
  have hfr := hR.fresh
  have hR' : Rl G (hsO h H.size (ci, fs)) H1 := by
    refine hR.put (a := H.size) (k := 0) ab_atO (fun x hx => absurd hx (ab_new_at hfr x)) (ab_rgO hR.2.2.1 hok) ⟨rfl, rfl, rfl⟩ hN ?_ (by omega) (fun q hq _ => o1 q hq)
    exact ⟨_, cf.1, (u_born ty hts cf.2.1 hKc hkC e1 cf.2.2.1).to hfs⟩
  exact k H.size hfr l G p e R s m args below meth c H1 _ (cells + 1) (slots + N) lsr C9 hL (List.forall_mem_cons.mpr ⟨trivial, hst⟩) hls hR' hlo (by omega) (by omega)
theorem rr_newI {d : Nat} {md : AbM} {bc bs pc pc' : Nat} {ls : List (Option AbV)} {st : List AbV} {h : AbH} {K : Option AbV → AbH → Prop} {bc' bs' n : Nat} {a : Int} (hd : decode (mC md) pc = .ok (.newarray .int, 2)) (hp : pc + 2 = pc') (hw : Cond.arrayClass .int ∈ lwW) (hn : a = (n : Int)) (hn2 : n ≤ 10000) (hbc1 : bc' + 1 ≤ bc) (hbs1 : bs' + n ≤ bs) (k : ∀ q, ab_new h q → Vx d md bc' bs' pc' ls (vR (some q) :: st) (hsI h q (n, fun _ => 0)) K) : Vx d md bc bs pc ls (vI a :: st) h K := by
  intro l G p e R s m args below meth c H locs cells slots lsr C hL hst hls hR hlo hbc hbs
  have C0 := C
  obtain ⟨hx, hb, hml, hret, hown, hts, hlk, hnm, hKn, hd1, hd2, hRc, hRs⟩ := C0
  subst hp; subst hn
  obtain ⟨hsi, hst⟩ := List.forall_mem_cons.mp hst
  have hsi : in32 (n : Int) := hsi
  refine va_newaK (atype := .int) (n := Int32.ofInt (n : Int)) (N := n) hx hb (hts _ hw) rfl hd rfl (fun z => by rw [show (0 : Int32) = Int32.ofInt 0 from rfl, i32_lt hsi i32_0] at z; omega) (by rw [i32_nat hsi]; omega) (by show n * _ ≤ _; have : componentBytes (newarray.typeOf .int) = 4 := rfl; rw [this]; omega) (by rw [hRc]; omega) (by rw [hRs]; omega) rfl fun H1 cA e1 z1 o1 hAr hNm => ?_
  have hcA : cA = gC G 0 := by
    have := (hKn.1.2 0 _ rfl).2
    exact Option.some.inj (hNm.symm.trans this)
  subst hcA
  have hN : (gH G).size ≤ H.size := hR.2.2.2.2.1
  have hfr := hR.fresh
  have hR' : Rl G (hsI h H.size (n, fun _ => 0)) H1 := by
    refine hR.put (a := H.size) (k := 1) ab_atI (fun x hx => absurd hx (ab_new_at hfr x)) (ab_rgI hR.2.2.1 ⟨by show n < _; omega, fun j => i32_0⟩) ⟨rfl, rfl, rfl⟩ hN ?_ (by omega) (fun q hq _ => o1 q hq)
    show H1[H.size]? = some (vp_cell _ _)
    rw [e1, vp_cell_i]
    rfl
  exact k H.size hfr l G p e R s m args below meth c H1 _ (cells + 1) (slots + n) lsr C hL (List.forall_mem_cons.mpr ⟨trivial, hst⟩) hls hR' hlo (by omega) (by omega)
theorem rr_newJ {d : Nat} {md : AbM} {bc bs pc pc' : Nat} {ls : List (Option AbV)} {st : List AbV} {h : AbH} {K : Option AbV → AbH → Prop} {bc' bs' n : Nat} {a : Int} (hd : decode (mC md) pc = .ok (.newarray .long, 2)) (hp : pc + 2 = pc') (hw : Cond.arrayClass .long ∈ lwW) (hn : a = (n : Int)) (hn2 : n ≤ 10000) (hbc1 : bc' + 1 ≤ bc) (hbs1 : bs' + n ≤ bs) (k : ∀ q, ab_new h q → Vx d md bc' bs' pc' ls (vR (some q) :: st) (hsJ h q (n, fun _ => 0)) K) : Vx d md bc bs pc ls (vI a :: st) h K := by
  intro l G p e R s m args below meth c H locs cells slots lsr C hL hst hls hR hlo hbc hbs
  have C0 := C
  obtain ⟨hx, hb, hml, hret, hown, hts, hlk, hnm, hKn, hd1, hd2, hRc, hRs⟩ := C0
  subst hp; subst hn
  obtain ⟨hsi, hst⟩ := List.forall_mem_cons.mp hst
  have hsi : in32 (n : Int) := hsi
  refine va_newaK (atype := .long) (n := Int32.ofInt (n : Int)) (N := n) hx hb (hts _ hw) rfl hd rfl (fun z => by rw [show (0 : Int32) = Int32.ofInt 0 from rfl, i32_lt hsi i32_0] at z; omega) (by rw [i32_nat hsi]; omega) (by show n * _ ≤ _; have : componentBytes (newarray.typeOf .long) = 8 := rfl; rw [this]; omega) (by rw [hRc]; omega) (by rw [hRs]; omega) rfl fun H1 cA e1 z1 o1 hAr hNm => ?_
  have hcA : cA = gC G 1 := by
    have := (hKn.1.2 1 _ rfl).2
    exact Option.some.inj (hNm.symm.trans this)
  subst hcA
  have hN : (gH G).size ≤ H.size := hR.2.2.2.2.1
  have hfr := hR.fresh
  have hR' : Rl G (hsJ h H.size (n, fun _ => 0)) H1 := by
    refine hR.put (a := H.size) (k := 2) ab_atJ (fun x hx => absurd hx (ab_new_at hfr x)) (ab_rgJ hR.2.2.1 ⟨by show n < _; omega, fun j => i64_of i32_0⟩) ⟨rfl, rfl, rfl⟩ hN ?_ (by omega) (fun q hq _ => o1 q hq)
    show H1[H.size]? = some (vp_cell _ _)
    rw [e1, vp_cell_l]
    rfl
  exact k H.size hfr l G p e R s m args below meth c H1 _ (cells + 1) (slots + n) lsr C hL (List.forall_mem_cons.mpr ⟨trivial, hst⟩) hls hR' hlo (by omega) (by omega)
theorem rr_newZ {d : Nat} {md : AbM} {bc bs pc pc' : Nat} {ls : List (Option AbV)} {st : List AbV} {h : AbH} {K : Option AbV → AbH → Prop} {bc' bs' n : Nat} {a : Int} (hd : decode (mC md) pc = .ok (.newarray .boolean, 2)) (hp : pc + 2 = pc') (hw : Cond.arrayClass .boolean ∈ lwW) (hn : a = (n : Int)) (hn2 : n ≤ 10000) (hbc1 : bc' + 1 ≤ bc) (hbs1 : bs' + n ≤ bs) (k : ∀ q, ab_new h q → Vx d md bc' bs' pc' ls (vR (some q) :: st) (hsZ h q (n, fun _ => 0)) K) : Vx d md bc bs pc ls (vI a :: st) h K := by
  intro l G p e R s m args below meth c H locs cells slots lsr C hL hst hls hR hlo hbc hbs
  have C0 := C
  obtain ⟨hx, hb, hml, hret, hown, hts, hlk, hnm, hKn, hd1, hd2, hRc, hRs⟩ := C0
  subst hp; subst hn
  obtain ⟨hsi, hst⟩ := List.forall_mem_cons.mp hst
  have hsi : in32 (n : Int) := hsi
  refine va_newaK (atype := .boolean) (n := Int32.ofInt (n : Int)) (N := n) hx hb (hts _ hw) rfl hd rfl (fun z => by rw [show (0 : Int32) = Int32.ofInt 0 from rfl, i32_lt hsi i32_0] at z; omega) (by rw [i32_nat hsi]; omega) (by show n * _ ≤ _; have : componentBytes (newarray.typeOf .boolean) = 1 := rfl; rw [this]; omega) (by rw [hRc]; omega) (by rw [hRs]; omega) rfl fun H1 cA e1 z1 o1 hAr hNm => ?_
  have hcA : cA = gC G 2 := by
    have := (hKn.1.2 2 _ rfl).2
    exact Option.some.inj (hNm.symm.trans this)
  subst hcA
  have hN : (gH G).size ≤ H.size := hR.2.2.2.2.1
  have hfr := hR.fresh
  have hR' : Rl G (hsZ h H.size (n, fun _ => 0)) H1 := by
    refine hR.put (a := H.size) (k := 3) ab_atZ (fun x hx => absurd hx (ab_new_at hfr x)) (ab_rgZ hR.2.2.1 ⟨by show n < _; omega, fun j => Or.inl rfl⟩) ⟨rfl, rfl, rfl⟩ hN ?_ (by omega) (fun q hq _ => o1 q hq)
    show H1[H.size]? = some (vp_cell _ _)
    rw [e1, vp_cell_i]
    rfl
  exact k H.size hfr l G p e R s m args below meth c H1 _ (cells + 1) (slots + n) lsr C hL (List.forall_mem_cons.mpr ⟨trivial, hst⟩) hls hR' hlo (by omega) (by omega)
theorem ab_ao {G : AbG} {s : State} (h : Kn G s) {k : Nat} (hk : k = 0 ∨ k = 2 ∨ k = 7) : va_AO (ab_tc k) s := by
  rcases hk with rfl | rfl | rfl
  · exact h.2.2.1.1
  · exact h.2.2.1.2.1
  · exact h.2.2.1.2.2
theorem rr_newR {d : Nat} {md : AbM} {bc bs pc pc' : Nat} {ls : List (Option AbV)} {st : List AbV} {h : AbH} {K : Option AbV → AbH → Prop} {bc' bs' n i : Nat} {a : Int} (k0 : Nat) (hk0 : k0 = 0 ∨ k0 = 2 ∨ k0 = 7) (hd : decode (mC md) pc = .ok (.anewarray i, 3)) (hp : pc + 3 = pc') (hw : Cond.classLink (mY md).cls i (ab_tc k0) ∈ lwW) (hn : a = (n : Int)) (hn2 : n ≤ 10000) (hbc1 : bc' + 1 ≤ bc) (hbs1 : bs' + n ≤ bs) (k : ∀ q, ab_new h q → Vx d md bc' bs' pc' ls (vR (some q) :: st) (hsR h q (k0, n, fun _ => none)) K) : Vx d md bc bs pc ls (vI a :: st) h K := by
  intro l G p e R s m args below meth c H locs cells slots lsr C hL hst hls hR hlo hbc hbs
  have C0 := C
  obtain ⟨hx, hb, hml, hret, hown, hts, hlk, hnm, hKn, hd1, hd2, hRc, hRs⟩ := C0
  subst hp; subst hn
  obtain ⟨hsi, hst⟩ := List.forall_mem_cons.mp hst
  have hsi : in32 (n : Int) := hsi
  have hcl : (Int32.ofInt (n : Int)).toNatClampNeg = n := by rw [i32_nat hsi]; omega
  refine W.anew (n := Int32.ofInt (n : Int)) hx hb hown (hts _ hw) (va_AO.use (ab_ao hKn hk0)) rfl hd rfl (fun z => by rw [show (0 : Int32) = Int32.ofInt 0 from rfl, i32_lt hsi i32_0] at z; omega) (by rw [hcl]; omega) (by rw [hRc]; omega) (by rw [hRs, hcl]; omega) fun cA kA comp f1 f2 f3 f4 => ?_
  rw [hcl]
  obtain ⟨t0, ht0⟩ := ab_tys_r (G := G) hk0
  have hcA : cA = gC G (3 + k0) := by
    obtain ⟨_, _, _, _, _, g4⟩ := (hKn.1.2 t0 _ ht0).2
    exact Option.some.inj (f1.symm.trans g4)
  subst hcA
  have hN : (gH G).size ≤ H.size := hR.2.2.2.2.1
  have hfr := hR.fresh
  generalize hH1 : H.push ({ cls := gC G (3 + k0), slots := Array.replicate n .null, vm := .none } : Cell) = H1
  have z1 : H1.size = H.size + 1 := by rw [← hH1, Array.size_push]
  have e1 : H1[H.size]? = some (arrV (gC G (3 + k0)) n (fun _ => .null)) := by rw [← hH1, Array.getElem?_push_size, ← arrV_new]
  have o1 : ∀ q : Nat, q < H.size → H1[q]? = H[q]? := fun q hq => by rw [← hH1, Array.getElem?_push, if_neg (Nat.ne_of_lt hq)]
  have hR' : Rl G (hsR h H.size (k0, n, fun _ => none)) H1 := by
    refine hR.put (a := H.size) (k := 4) ab_atR (fun x hx => absurd hx (ab_new_at hfr x)) (ab_rgR hR.2.2.1 ⟨by show n < _; omega, hk0⟩) ⟨rfl, rfl, rfl⟩ hN ?_ (by omega) (fun q hq _ => o1 q hq)
    show H1[H.size]? = some (vp_cell _ _)
    rw [e1, vp_cell_q]
    rfl
  exact k H.size hfr l G p e R s m args below meth c H1 _ (cells + 1) (slots + n) lsr C hL (List.forall_mem_cons.mpr ⟨trivial, hst⟩) hls hR' hlo (by omega) (by omega)
theorem PcV.blind {G : AbG} {av : List AbV} {h : AbH} : FrameBlind (PcV G av h) := fun a U g mk q => ⟨q.1, q.2.1, q.2.2.1, Kn.same (s := U) (U := U.calling g mk a) rfl q.2.2.2⟩
theorem ab_good {md : AbM} (hc : Cond.code (mY md) (mC md) (mL md) (mR md) ∈ lwW) : GoodIn lwW (wsOf md) := by
  have h0 : ∀ w ∈ lwW, w ∈ lwW ∧ ((w.onTables && w.keeps) = true ∨ ∃ ty, w = .arrayClass ty) := fun w hw => ⟨hw, good_of_word (List.mem_filter.mp hw).2⟩
  intro w hw
  rcases List.mem_cons.mp hw with z | z
  · rw [z]; exact h0 _ hc
  · exact h0 w z
def ab_cs (st : List AbV) : Nat := (st.map fun v => (ab_cv v).category).sum
/-- what the tables say of a method, whoever calls it -/
def MdF (md : AbM) (n : Nat) : Prop := Cond.code (mY md) (mC md) (mL md) (mR md) ∈ lwW ∧ Cond.initialized (mY md).cls ∈ lwW ∧ ((mY md).cls ≠ "java/lang/invoke/MethodHandle" ∧ (mY md).cls ≠ "java/lang/invoke/VarHandle" ∧ (parseMethodDescriptor (mY md).desc).map (fun d => d.parameters.length) = some n) ∧ mL md ≤ 30
theorem rr_callS {d : Nat} {md : AbM} {bc bs pc pc' : Nat} {ls : List (Option AbV)} {st : List AbV} {h : AbH} {K : Option AbV → AbH → Prop} {md' : AbM} {av : List AbV} {bc' bs' i n : Nat} {K0 : Option AbV → AbH → Prop} (mf : MdF md' n) (hd : decode (mC md) pc = .ok (.invokestatic i, 3)) (hp : pc + 3 = pc') (hw : Cond.methodLink (mY md).cls i (mY md') ∈ lwW) (hst1 : Cond.static (mY md') ∈ lwW) (hlen : av.length = n) (hcs : ab_cs st ≤ 8) (hbc1 : bc' + mN md' ≤ bc) (hbs1 : bs' + mS md' ≤ bs) (hh : Vm d md' av h K0) (hK : ∀ r h', K0 r h' → Vx (d + 1) md bc' bs' pc' ls (r.toList ++ st) h' K) : Vx (d + 1) md bc bs pc ls (av.reverse ++ st) h K := by
  intro l G p e R s m args below meth c H locs cells slots lsr C9 hL hst hls hR hlo hbc hbs
  have C0 := C9
  obtain ⟨hx, hb, hml, hret, hown, hts, hlk, hnm, hKn, hd1, hd2, hRc, hRs⟩ := C0
  subst hp
  obtain ⟨mf1, mf2, mf3, mf4⟩ := mf
  have hav : ∀ a ∈ av, ab_ok a := fun a ha => hst a (List.mem_append_left _ (List.mem_reverse.mpr ha))
  have hst : ∀ w ∈ st, ab_ok w := fun w hw => hst w (List.mem_append_right _ hw)
  have hrun := va_runS (H := H) (locs := locs) (cells := cells) (slots := slots) (e := e) (below := below) (meth := meth) (R := R) (As := av.map ab_cv) (rest := st.map ab_cv) (g := F0 m pc lsr ((av.reverse ++ st).map ab_cv)) (n := n) ⟨hx, hb, hml, hown, hts⟩ (hh l G) ⟨callB_of n hts (ab_good mf1) rfl rfl rfl (hts _ mf2) (hts _ hw) mf3 ⟨by show d + 1 ≤ R.frames; omega, by show 8 + (mL md' + 11) + 64 * d ≤ R.locals; omega⟩, hts _ hst1⟩ ⟨PcV.blind, fun U hU hW => ⟨rfl, hav, by rw [hU]; exact hR, hKn.warm hW⟩⟩ rfl (by rw [List.length_map]; exact hlen) hL.1 (by show (av.reverse ++ st).map ab_cv = _; rw [List.map_append, List.map_reverse]) (lv_room (by rw [List.map_map]; exact hcs)) hd ⟨by rw [hRc]; omega, by rw [hRs]; omega⟩
  intro T hT X
  obtain ⟨v, st₀, t, T', L, h0, X', hLf, e1, e2, ⟨r, h', hr, hrok, hR2, hK0⟩, stp⟩ := hrun T hT X
  cases hr
  have hR3 : Rl G h' T'.heap := by rw [e1]; exact hR2
  have hok2 : ∀ w ∈ r.toList ++ st, ab_ok w := fun w hw => by
    rcases List.mem_append.mp hw with z | z
    · cases r with
      | none => cases z
      | some a => exact hrok w (by rw [Option.toList_some, List.mem_singleton] at z; rw [z])
    · exact hst w z
  have hW := hK r h' hK0 l G p e R s m args below meth c T'.heap (locs ++ L) (cells + mN md') (slots + mS md') lsr C9 hL hok2 hls hR3 (fun x hx => by
    rcases List.mem_append.mp hx with z | z
    · exact hlo x z
    · exact hLf x z) (by omega) (by omega)
  obtain ⟨t2, a1, b1⟩ := hW T' rfl X'
  refine ⟨t2, stp t2 ?_, b1⟩
  have es : (r.map ab_cv).toList ++ st.map ab_cv = (r.toList ++ st).map ab_cv := by cases r <;> simp
  rw [es]
  exact a1
theorem rr_callV {d : Nat} {md : AbM} {bc bs pc pc' : Nat} {ls : List (Option AbV)} {st : List AbV} {h : AbH} {K : Option AbV → AbH → Prop} {md' : AbM} {av : List AbV} {bc' bs' i n : Nat} {K0 : Option AbV → AbH → Prop} {b ci : Nat} {fs : List AbV} (mf : MdF md' n) (hd : decode (mC md) pc = .ok (.invokevirtual i, 3)) (hp : pc + 3 = pc') (hw : Cond.methodLink (mY md).cls i (mY md') ∈ lwW) (hin : Cond.instanceMethod (mY md') ∈ lwW) (hse : Cond.selects (mY md').cls (mY md') (mY md') ∈ lwW) (hci : ∃ T N, vwCl[ci]? = some ((mY md').cls, T, N)) (hob : hpO h b = some (ci, fs)) (hlen : av.length = n) (hcs : ab_cs st ≤ 8) (hbc1 : bc' + mN md' ≤ bc) (hbs1 : bs' + mS md' ≤ bs) (hh : Vm d md' (vR (some b) :: av) h K0) (hK : ∀ r h', K0 r h' → Vx (d + 1) md bc' bs' pc' ls (r.toList ++ st) h' K) : Vx (d + 1) md bc bs pc ls (av.reverse ++ vR (some b) :: st) h K := by
  intro l G p e R s m args below meth c H locs cells slots lsr C9 hL hst hls hR hlo hbc hbs
  have C0 := C9
  obtain ⟨hx, hb, hml, hret, hown, hts, hlk, hnm, hKn, hd1, hd2, hRc, hRs⟩ := C0
  subst hp
  obtain ⟨mf1, mf2, mf3, mf4⟩ := mf
  obtain ⟨T0, N0, hci⟩ := hci
  have hav : ∀ a ∈ vR (some b) :: av, ab_ok a := List.forall_mem_cons.mpr ⟨trivial, fun a ha => hst a (List.mem_append_left _ (List.mem_reverse.mpr ha))⟩
  have hst : ∀ w ∈ st, ab_ok w := fun w hw => hst w (List.mem_append_right _ (List.mem_cons_of_mem _ hw))
  have hrun := va_runV (H := H) (locs := locs) (cells := cells) (slots := slots) (e := e) (below := below) (meth := meth) (R := R) (b := b) (C := (mY md').cls) (As := av.map ab_cv) (rest := st.map ab_cv) (g := F0 m pc lsr ((av.reverse ++ vR (some b) :: st).map ab_cv)) (n := n) ⟨hx, hb, hml, hown, hts⟩ (hh l G) ⟨callB_of n hts (ab_good mf1) rfl rfl rfl (hts _ mf2) (hts _ hw) mf3 ⟨by show d + 1 ≤ R.frames; omega, by show 8 + (mL md' + 11) + 64 * d ≤ R.locals; omega⟩, hts _ hin, hts _ hse⟩ ⟨PcV.blind, va_recv hKn.1 (hR.PO hob) (q0 := 0) hci rfl, fun U hU hW => ⟨rfl, hav, by rw [hU]; exact hR, hKn.warm hW⟩⟩ rfl (by rw [List.length_map]; exact hlen) hL.1 (by show (av.reverse ++ vR (some b) :: st).map ab_cv = _; rw [List.map_append, List.map_reverse]; rfl) (lv_room (by rw [List.map_map]; exact hcs)) hd ⟨by rw [hRc]; omega, by rw [hRs]; omega⟩
  intro T hT X
  obtain ⟨v, st₀, t, T', L, h0, X', hLf, e1, e2, ⟨r, h', hr, hrok, hR2, hK0⟩, stp⟩ := hrun T hT X
  cases hr
  have hR3 : Rl G h' T'.heap := by rw [e1]; exact hR2
  have hok2 : ∀ w ∈ r.toList ++ st, ab_ok w := fun w hw => by
    rcases List.mem_append.mp hw with z | z
    · cases r with
      | none => cases z
      | some a => exact hrok w (by rw [Option.toList_some, List.mem_singleton] at z; rw [z])
    · exact hst w z
  have hW := hK r h' hK0 l G p e R s m args below meth c T'.heap (locs ++ L) (cells + mN md') (slots + mS md') lsr C9 hL hok2 hls hR3 (fun x hx => by
    rcases List.mem_append.mp hx with z | z
    · exact hlo x z
    · exact hLf x z) (by omega) (by omega)
  obtain ⟨t2, a1, b1⟩ := hW T' rfl X'
  refine ⟨t2, stp t2 ?_, b1⟩
  have es : (r.map ab_cv).toList ++ st.map ab_cv = (r.toList ++ st).map ab_cv := by cases r <;> simp
  rw [es]
  exact a1
theorem rr_callI {d : Nat} {md : AbM} {bc bs pc pc' : Nat} {ls : List (Option AbV)} {st : List AbV} {h : AbH} {K : Option AbV → AbH → Prop} {md' : AbM} {av : List AbV} {bc' bs' i n : Nat} {K0 : Option AbV → AbH → Prop} {b : Nat} (mf : MdF md' n) (hy1 : (mY md').name = "<init>") (hr0 : mR md' = none) (hd : decode (mC md) pc = .ok (.invokespecial i, 3)) (hp : pc + 3 = pc') (hw : Cond.methodLink (mY md).cls i (mY md') ∈ lwW) (hin : Cond.instanceMethod (mY md') ∈ lwW) (hlen : av.length = n) (hcs : ab_cs st ≤ 8) (hbc1 : bc' + mN md' ≤ bc) (hbs1 : bs' + mS md' ≤ bs) (hh : Vm d md' (vR (some b) :: av) h K0) (hK : ∀ r h', K0 r h' → Vx (d + 1) md bc' bs' pc' ls (r.toList ++ st) h' K) : Vx (d + 1) md bc bs pc ls (av.reverse ++ vR (some b) :: st) h K := by
  intro l G p e R s m args below meth c H locs cells slots lsr C9 hL hst hls hR hlo hbc hbs
  have C0 := C9
  obtain ⟨hx, hb, hml, hret, hown, hts, hlk, hnm, hKn, hd1, hd2, hRc, hRs⟩ := C0
  subst hp
  obtain ⟨mf1, mf2, mf3, mf4⟩ := mf
  have hav : ∀ a ∈ vR (some b) :: av, ab_ok a := List.forall_mem_cons.mpr ⟨trivial, fun a ha => hst a (List.mem_append_left _ (List.mem_reverse.mpr ha))⟩
  have hst : ∀ w ∈ st, ab_ok w := fun w hw => hst w (List.mem_append_right _ (List.mem_cons_of_mem _ hw))
  have hrun := va_runI (H := H) (locs := locs) (cells := cells) (slots := slots) (e := e) (below := below) (meth := meth) (R := R) (b := b) (As := av.map ab_cv) (rest := st.map ab_cv) (g := F0 m pc lsr ((av.reverse ++ vR (some b) :: st).map ab_cv)) (n := n) ⟨hx, hb, hml, hown, hts⟩ (hh l G) ⟨callB_of n hts (ab_good mf1) (show wsOf md' = Cond.code (mY md') (mC md') (mL md') none :: lwW by rw [← hr0]; rfl) rfl rfl (hts _ mf2) (hts _ hw) mf3 ⟨by show d + 1 ≤ R.frames; omega, by show 8 + (mL md' + 11) + 64 * d ≤ R.locals; omega⟩, hy1, hts _ hin⟩ ⟨PcV.blind, fun U hU hW => ⟨rfl, hav, by rw [hU]; exact hR, hKn.warm hW⟩⟩ rfl (by rw [List.length_map]; exact hlen) hL.1 (by show (av.reverse ++ vR (some b) :: st).map ab_cv = _; rw [List.map_append, List.map_reverse]; rfl) (lv_room (by rw [List.map_map]; exact hcs)) hd ⟨by rw [hRc]; omega, by rw [hRs]; omega⟩
  intro T hT X
  obtain ⟨v, st₀, t, T', L, h0, X', hLf, e1, e2, ⟨r, h', hr, hrok, hR2, hK0⟩, stp⟩ := hrun T hT X
  cases hr
  have hR3 : Rl G h' T'.heap := by rw [e1]; exact hR2
  have hok2 : ∀ w ∈ r.toList ++ st, ab_ok w := fun w hw => by
    rcases List.mem_append.mp hw with z | z
    · cases r with
      | none => cases z
      | some a => exact hrok w (by rw [Option.toList_some, List.mem_singleton] at z; rw [z])
    · exact hst w z
  have hW := hK r h' hK0 l G p e R s m args below meth c T'.heap (locs ++ L) (cells + mN md') (slots + mS md') lsr C9 hL hok2 hls hR3 (fun x hx => by
    rcases List.mem_append.mp hx with z | z
    · exact hlo x z
    · exact hLf x z) (by omega) (by omega)
  obtain ⟨t2, a1, b1⟩ := hW T' rfl X'
  refine ⟨t2, stp t2 ?_, b1⟩
  have es : (r.map ab_cv).toList ++ st.map ab_cv = (r.toList ++ st).map ab_cv := by cases r <;> simp
  rw [es]
  exact a1
theorem rr_callSN {d : Nat} {md : AbM} {bc bs pc pc' : Nat} {ls : List (Option AbV)} {st : List AbV} {h : AbH} {K : Option AbV → AbH → Prop} {md' : AbM} {av : List AbV} {bc' bs' i n : Nat} {K0 : Option AbV → AbH → Prop} {host : String} (mf : MdF md' n) (hd : decode (mC md) pc = .ok (.invokestatic i, 3)) (hp : pc + 3 = pc') (hw : ((mY md).cls, i, mY md', host) ∈ ab_nest) (hst1 : Cond.static (mY md') ∈ lwW) (hlen : av.length = n) (hcs : ab_cs st ≤ 8) (hbc1 : bc' + mN md' ≤ bc) (hbs1 : bs' + mS md' ≤ bs) (hh : Vm d md' av h K0) (hK : ∀ r h', K0 r h' → Vx (d + 1) md bc' bs' pc' ls (r.toList ++ st) h' K) : Vx (d + 1) md bc bs pc ls (av.reverse ++ st) h K := by
  intro l G p e R s m args below meth c H locs cells slots lsr C9 hL hst hls hR hlo hbc hbs
  have C0 := C9
  obtain ⟨hx, hb, hml, hret, hown, hts, hlk, hnm, hKn, hd1, hd2, hRc, hRs⟩ := C0
  subst hp
  obtain ⟨mf1, mf2, mf3, mf4⟩ := mf
  have hav : ∀ a ∈ av, ab_ok a := fun a ha => hst a (List.mem_append_left _ (List.mem_reverse.mpr ha))
  have hst : ∀ w ∈ st, ab_ok w := fun w hw => hst w (List.mem_append_right _ hw)
  have hrun := va_runSN (H := H) (locs := locs) (cells := cells) (slots := slots) (e := e) (below := below) (meth := meth) (R := R) (As := av.map ab_cv) (rest := st.map ab_cv) (g := F0 m pc lsr ((av.reverse ++ st).map ab_cv)) (n := n) ⟨hx, hb, hml, hown, hts⟩ (hh l G) ⟨va_cnB n hts (ab_good mf1) rfl rfl rfl (hKn.2.1 _ hw) (hts _ mf2) mf3 ⟨by show d + 1 ≤ R.frames; omega, by show 8 + (mL md' + 11) + 64 * d ≤ R.locals; omega⟩, hts _ hst1, trivial⟩ ⟨PcV.blind, fun U hU hW => ⟨rfl, hav, by rw [hU]; exact hR, hKn.warm hW⟩⟩ rfl (by rw [List.length_map]; exact hlen) hL.1 (by show (av.reverse ++ st).map ab_cv = _; rw [List.map_append, List.map_reverse]) (lv_room (by rw [List.map_map]; exact hcs)) hd ⟨by rw [hRc]; omega, by rw [hRs]; omega⟩
  intro T hT X
  obtain ⟨v, st₀, t, T', L, h0, X', hLf, e1, e2, ⟨r, h', hr, hrok, hR2, hK0⟩, stp⟩ := hrun T hT X
  cases hr
  have hR3 : Rl G h' T'.heap := by rw [e1]; exact hR2
  have hok2 : ∀ w ∈ r.toList ++ st, ab_ok w := fun w hw => by
    rcases List.mem_append.mp hw with z | z
    · cases r with
      | none => cases z
      | some a => exact hrok w (by rw [Option.toList_some, List.mem_singleton] at z; rw [z])
    · exact hst w z
  have hW := hK r h' hK0 l G p e R s m args below meth c T'.heap (locs ++ L) (cells + mN md') (slots + mS md') lsr C9 hL hok2 hls hR3 (fun x hx => by
    rcases List.mem_append.mp hx with z | z
    · exact hlo x z
    · exact hLf x z) (by omega) (by omega)
  obtain ⟨t2, a1, b1⟩ := hW T' rfl X'
  refine ⟨t2, stp t2 ?_, b1⟩
  have es : (r.map ab_cv).toList ++ st.map ab_cv = (r.toList ++ st).map ab_cv := by cases r <;> simp
  rw [es]
  exact a1
theorem rr_callIN {d : Nat} {md : AbM} {bc bs pc pc' : Nat} {ls : List (Option AbV)} {st : List AbV} {h : AbH} {K : Option AbV → AbH → Prop} {md' : AbM} {av : List AbV} {bc' bs' i n : Nat} {K0 : Option AbV → AbH → Prop} {b : Nat} {host : String} (mf : MdF md' n) (hy1 : (mY md').name = "<init>") (hr0 : mR md' = none) (hd : decode (mC md) pc = .ok (.invokespecial i, 3)) (hp : pc + 3 = pc') (hw : ((mY md).cls, i, mY md', host) ∈ ab_nest) (hin : Cond.instanceMethod (mY md') ∈ lwW) (hlen : av.length = n) (hcs : ab_cs st ≤ 8) (hbc1 : bc' + mN md' ≤ bc) (hbs1 : bs' + mS md' ≤ bs) (hh : Vm d md' (vR (some b) :: av) h K0) (hK : ∀ r h', K0 r h' → Vx (d + 1) md bc' bs' pc' ls (r.toList ++ st) h' K) : Vx (d + 1) md bc bs pc ls (av.reverse ++ vR (some b) :: st) h K := by
  intro l G p e R s m args below meth c H locs cells slots lsr C9 hL hst hls hR hlo hbc hbs
  have C0 := C9
  obtain ⟨hx, hb, hml, hret, hown, hts, hlk, hnm, hKn, hd1, hd2, hRc, hRs⟩ := C0
  subst hp
  obtain ⟨mf1, mf2, mf3, mf4⟩ := mf
  have hav : ∀ a ∈ vR (some b) :: av, ab_ok a := List.forall_mem_cons.mpr ⟨trivial, fun a ha => hst a (List.mem_append_left _ (List.mem_reverse.mpr ha))⟩
  have hst : ∀ w ∈ st, ab_ok w := fun w hw => hst w (List.mem_append_right _ (List.mem_cons_of_mem _ hw))
  have hrun := va_runIN (H := H) (locs := locs) (cells := cells) (slots := slots) (e := e) (below := below) (meth := meth) (R := R) (b := b) (As := av.map ab_cv) (rest := st.map ab_cv) (g := F0 m pc lsr ((av.reverse ++ vR (some b) :: st).map ab_cv)) (n := n) ⟨hx, hb, hml, hown, hts⟩ (hh l G) ⟨va_cnB n hts (ab_good mf1) (show wsOf md' = Cond.code (mY md') (mC md') (mL md') none :: lwW by rw [← hr0]; rfl) rfl rfl (hKn.2.1 _ hw) (hts _ mf2) mf3 ⟨by show d + 1 ≤ R.frames; omega, by show 8 + (mL md' + 11) + 64 * d ≤ R.locals; omega⟩, hy1, hts _ hin⟩ ⟨PcV.blind, fun U hU hW => ⟨rfl, hav, by rw [hU]; exact hR, hKn.warm hW⟩⟩ rfl (by rw [List.length_map]; exact hlen) hL.1 (by show (av.reverse ++ vR (some b) :: st).map ab_cv = _; rw [List.map_append, List.map_reverse]; rfl) (lv_room (by rw [List.map_map]; exact hcs)) hd ⟨by rw [hRc]; omega, by rw [hRs]; omega⟩
  intro T hT X
  obtain ⟨v, st₀, t, T', L, h0, X', hLf, e1, e2, ⟨r, h', hr, hrok, hR2, hK0⟩, stp⟩ := hrun T hT X
  cases hr
  have hR3 : Rl G h' T'.heap := by rw [e1]; exact hR2
  have hok2 : ∀ w ∈ r.toList ++ st, ab_ok w := fun w hw => by
    rcases List.mem_append.mp hw with z | z
    · cases r with
      | none => cases z
      | some a => exact hrok w (by rw [Option.toList_some, List.mem_singleton] at z; rw [z])
    · exact hst w z
  have hW := hK r h' hK0 l G p e R s m args below meth c T'.heap (locs ++ L) (cells + mN md') (slots + mS md') lsr C9 hL hok2 hls hR3 (fun x hx => by
    rcases List.mem_append.mp hx with z | z
    · exact hlo x z
    · exact hLf x z) (by omega) (by omega)
  obtain ⟨t2, a1, b1⟩ := hW T' rfl X'
  refine ⟨t2, stp t2 ?_, b1⟩
  have es : (r.map ab_cv).toList ++ st.map ab_cv = (r.toList ++ st).map ab_cv := by cases r <;> simp
  rw [es]
  exact a1
theorem rr_kI {d : Nat} {md : AbM} {bc bs pc : Nat} {ls : List (Option AbV)} {st : List AbV} {K : Option AbV → AbH → Prop} {f : Int → AbH → Prop} (k : ∀ n h', f n h' → Vx d md bc bs pc ls (vI n :: st) h' K) : ∀ r h', kI f r h' → Vx d md bc bs pc ls (r.toList ++ st) h' K := by
  rintro r h' ⟨n, rfl, hf⟩
  exact k n h' hf
theorem rr_kL {d : Nat} {md : AbM} {bc bs pc : Nat} {ls : List (Option AbV)} {st : List AbV} {K : Option AbV → AbH → Prop} {f : Int → AbH → Prop} (k : ∀ n h', f n h' → Vx d md bc bs pc ls (vL n :: st) h' K) : ∀ r h', kL f r h' → Vx d md bc bs pc ls (r.toList ++ st) h' K := by
  rintro r h' ⟨n, rfl, hf⟩
  exact k n h' hf
theorem rr_kR {d : Nat} {md : AbM} {bc bs pc : Nat} {ls : List (Option AbV)} {st : List AbV} {K : Option AbV → AbH → Prop} {f : Option Nat → AbH → Prop} (k : ∀ n h', f n h' → Vx d md bc bs pc ls (vR n :: st) h' K) : ∀ r h', kR f r h' → Vx d md bc bs pc ls (r.toList ++ st) h' K := by
  rintro r h' ⟨n, rfl, hf⟩
  exact k n h' hf
theorem rr_kV {d : Nat} {md : AbM} {bc bs pc : Nat} {ls : List (Option AbV)} {st : List AbV} {K : Option AbV → AbH → Prop} {f : AbH → Prop} (k : ∀ h', f h' → Vx d md bc bs pc ls st h' K) : ∀ r h', kV f r h' → Vx d md bc bs pc ls (r.toList ++ st) h' K := by
  rintro r h' ⟨rfl, hf⟩
  exact k h' hf
theorem rr_objInit {d : Nat} {md : AbM} {bc bs pc pc' : Nat} {ls : List (Option AbV)} {st : List AbV} {h : AbH} {K : Option AbV → AbH → Prop} {i : Nat} {q : Nat} (hd : decode (mC md) pc = .ok (.invokespecial i, 3)) (hp : pc + 3 = pc') (hw : Cond.methodLink (mY md).cls i objectInit ∈ lwW) (hin : Cond.instanceMethod objectInit ∈ lwW) (hco : Cond.code objectInit ⟨#[0xb1]⟩ 1 none ∈ lwW) (hcs : ab_cs st ≤ 8) (k : Vx (d + 1) md bc bs pc' ls st h K) : Vx (d + 1) md bc bs pc ls (vR (some q) :: st) h K := by
  intro l G p e R s m args below meth c H locs cells slots lsr C hL hst hls hR hlo hbc hbs
  have C0 := C
  obtain ⟨hx, hb, hml, hret, hown, hts, hlk, hnm, hKn, hd1, hd2, hRc, hRs⟩ := C0
  subst hp
  have h8 : 2 * (F0 m pc lsr (List.map ab_cv (vR (some q) :: st))).monitorRoom + ((st.map ab_cv).map fun v => v.category).sum ≤ 8 := lv_room (by rw [List.map_map]; exact hcs)
  refine W.objInit hx hb hown (hts _ hw) (hts _ hin) (hts _ hco) rfl (hL.1.trans hml.symm) rfl hd (by omega) (by omega) ?_
  exact k l G p e R s m args below meth c H locs cells slots lsr C hL (fun w hw => hst w (List.mem_cons_of_mem _ hw)) hls hR hlo hbc hbs
theorem rr_mmin {d : Nat} {md : AbM} {bc bs pc pc' : Nat} {ls : List (Option AbV)} {st : List AbV} {h : AbH} {K : Option AbV → AbH → Prop} {i : Nat} {a b : Int} (hd : decode (mC md) pc = .ok (.invokestatic i, 3)) (hp : pc + 3 = pc') (hw : Cond.methodLink (mY md).cls i Lib.Math.min.name ∈ lwW) (hs1 : Cond.static Lib.Math.min.name ∈ lwW) (hi1 : Cond.initialized "java/lang/Math" ∈ lwW) (hco : Cond.code Lib.Math.min.name Lib.Math.min.code 2 (some .int) ∈ lwW) (hcs : ab_cs st ≤ 8) (k : Vx (d + 1) md bc bs pc' ls (vI (if b < a then b else a) :: st) h K) : Vx (d + 1) md bc bs pc ls (vI b :: vI a :: st) h K := by
  intro l G p e R s m args below meth c H locs cells slots lsr C hL hst hls hR hlo hbc hbs
  have C0 := C
  obtain ⟨hx, hb, hml, hret, hown, hts, hlk, hnm, hKn, hd1, hd2, hRc, hRs⟩ := C0
  subst hp
  obtain ⟨hsb, hst⟩ := List.forall_mem_cons.mp hst
  obtain ⟨hsa, hst⟩ := List.forall_mem_cons.mp hst
  have hsa : in32 a := hsa
  have hsb : in32 b := hsb
  have h8 : ((st.map ab_cv).map fun v => v.category).sum ≤ 8 := by rw [List.map_map]; exact hcs
  refine va_mmin hx hb (hml.trans hL.1.symm) hown (hts _ hw) (hts _ hs1) (hts _ hi1) (hts _ hco) (by omega) (by omega) (by rw [hRc]; omega) (by rw [hRs]; omega) hd ?_
  have e1 : (if Int32.ofInt b < Int32.ofInt a then Int32.ofInt b else Int32.ofInt a) = Int32.ofInt (if b < a then b else a) := by
    by_cases z : b < a
    · rw [if_pos ((i32_lt hsb hsa).mpr z), if_pos z]
    · rw [if_neg (fun y => z ((i32_lt hsb hsa).mp y)), if_neg z]
  rw [e1]
  exact k l G p e R s m args below meth c H locs cells slots lsr C hL (List.forall_mem_cons.mpr ⟨by show in32 _; split <;> assumption, hst⟩) hls hR hlo hbc hbs
theorem rr_mmax {d : Nat} {md : AbM} {bc bs pc pc' : Nat} {ls : List (Option AbV)} {st : List AbV} {h : AbH} {K : Option AbV → AbH → Prop} {i : Nat} {a b : Int} (hd : decode (mC md) pc = .ok (.invokestatic i, 3)) (hp : pc + 3 = pc') (hw : Cond.methodLink (mY md).cls i Lib.Math.max.name ∈ lwW) (hs1 : Cond.static Lib.Math.max.name ∈ lwW) (hi1 : Cond.initialized "java/lang/Math" ∈ lwW) (hco : Cond.code Lib.Math.max.name Lib.Math.max.code 2 (some .int) ∈ lwW) (hcs : ab_cs st ≤ 8) (k : Vx (d + 1) md bc bs pc' ls (vI (if a < b then b else a) :: st) h K) : Vx (d + 1) md bc bs pc ls (vI b :: vI a :: st) h K := by
  intro l G p e R s m args below meth c H locs cells slots lsr C hL hst hls hR hlo hbc hbs
  have C0 := C
  obtain ⟨hx, hb, hml, hret, hown, hts, hlk, hnm, hKn, hd1, hd2, hRc, hRs⟩ := C0
  subst hp
  obtain ⟨hsb, hst⟩ := List.forall_mem_cons.mp hst
  obtain ⟨hsa, hst⟩ := List.forall_mem_cons.mp hst
  have hsa : in32 a := hsa
  have hsb : in32 b := hsb
  have h8 : ((st.map ab_cv).map fun v => v.category).sum ≤ 8 := by rw [List.map_map]; exact hcs
  refine va_mmax hx hb (hml.trans hL.1.symm) hown (hts _ hw) (hts _ hs1) (hts _ hi1) (hts _ hco) (by omega) (by omega) (by rw [hRc]; omega) (by rw [hRs]; omega) hd ?_
  have e1 : (if Int32.ofInt a < Int32.ofInt b then Int32.ofInt b else Int32.ofInt a) = Int32.ofInt (if a < b then b else a) := by
    by_cases z : a < b
    · rw [if_pos ((i32_lt hsa hsb).mpr z), if_pos z]
    · rw [if_neg (fun y => z ((i32_lt hsa hsb).mp y)), if_neg z]
  rw [e1]
  exact k l G p e R s m args below meth c H locs cells slots lsr C hL (List.forall_mem_cons.mpr ⟨by show in32 _; split <;> assumption, hst⟩) hls hR hlo hbc hbs
