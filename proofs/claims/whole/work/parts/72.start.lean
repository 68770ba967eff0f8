/-! the law's entry: what the tables say -/
theorem st_arr {args : Array Value} {s : State} {t : FieldType} (h : (Cond.arrayClass t).before args s = true) : ∃ (c : ClassId) (k : Class) (comp : ClassId), s.vm.findClass ("[" ++ t.toString) = some c ∧ s.vm.classes[c]? = some k ∧ k.kind = .array comp t := by
  simp only [Cond.before, Cond.holds, Cond.value] at h
  cases hf : s.vm.findClass ("[" ++ t.toString) with
  | none => rw [hf] at h; simp at h
  | some c =>
    rw [hf] at h
    cases hk : s.vm.classes[c]? with
    | none => simp [hk] at h
    | some k =>
      cases hd : k.kind with
      | array comp ty =>
        simp [hk, hd] at h
        exact ⟨c, k, comp, rfl, hk, by rw [hd, h]⟩
      | _ => simp [hk, hd] at h
theorem st_of {s : State} {c : ClassId} {k : Class} {comp : ClassId} {t : FieldType} (h2 : s.vm.classes[c]? = some k) (h3 : k.kind = .array comp t) : ArrOfT s c t := fun _ _ => ⟨fun _ h => (by cases h), k, h2, comp, h3⟩
theorem st_obj {args : Array Value} {s : State} {C : String} (h : (Cond.arrayOver (.object C)).before args s = true) : ∃ c : ClassId, ArrOfT s c (.object C) ∧ va_RA s c (.object C) := by
  obtain ⟨comp, c, k, h1, h2, h3, h4, h5⟩ := Cond.arrayOver_spec h
  exact ⟨c, st_of h3 h4, k, comp, h3, h4, h1, h5⟩
def pk10 {α : Type} (a0 a1 a2 a3 a4 a5 a6 a7 a8 a9 : α) : Nat → α
  | 0 => a0
  | 1 => a1
  | 2 => a2
  | 3 => a3
  | 4 => a4
  | 5 => a5
  | 6 => a6
  | 7 => a7
  | 8 => a8
  | _ => a9
def pkC {α : Type} (a0 a1 a2 a3 a5 a10 : α) : Nat → α
  | 0 => a0
  | 1 => a1
  | 2 => a2
  | 3 => a3
  | 5 => a5
  | _ => a10
theorem st_fr {s t : State} {o : Outcome} {L : List Loc} {k n : Nat} (h : FrameEnd s o t L k n) (ho : ∃ v : Option Value, o = .returned v) (hL : ∀ q ∈ L, s.heap.size ≤ q.base) : Framed s o t [] k n := by
  unfold FrameEnd at h
  obtain ⟨h1, h2, h3⟩ := h
  refine ⟨ho, h2, ?_⟩
  unfold State.sameButNew at h3 ⊢
  obtain ⟨a1, a2, a3, a4, a5, a6⟩ := h3
  refine ⟨a1, a2, a3, a4, a5, fun a c ha => ?_⟩
  obtain ⟨c', b1, b2, b3, b4⟩ := a6 a c ha
  refine ⟨c', b1, b2, b3, fun i _ => b4 i (fun hm => ?_)⟩
  have h1 := hL _ hm
  have h2 := (Array.getElem?_eq_some_iff.mp ha).1
  exact absurd h2 (Nat.not_lt.mpr h1)
def scM (b L : Nat) (xs : Nat → Int32) : AbA := fun q => if q = b then some (L, fun j => (xs j).toInt) else none
set_option maxRecDepth 100000 in
set_option maxHeartbeats 4000000 in
theorem st_kn {s : State} {b L : Nat} {xs : Nat → Int32} (hts : ∀ w ∈ lw_tbl, w.before #[Value.ref b] s = true) (hX : va_X b L xs s s.heap) (hbl : b < s.heap.size) (hL : L ≤ 3584) (hgv : (Jvm.Cond.and given_1 narrow_1).before #[Value.ref b] s = true) : ∃ G : AbG, Kn G s ∧ gH G = s.heap ∧ gM G = scM b L xs := by
  have htw : ∀ w ∈ lwW, w.before #[Value.ref b] s = true := fun w hw => hts w (List.mem_filter.mp hw).1
  have tw : ∀ (i : Nat) {w : Cond}, tables_1[i]? = some w → w.before #[Value.ref b] s = true := fun i w h => hts w (List.mem_append_right _ (List.mem_of_getElem? h))
  have hs := flat_of_before _ hgv
  have hA : ∀ a : Nat, a < s.heap.size → ¬ s.heap.size ≤ a := fun a h => Nat.not_le.mpr h
  obtain ⟨c0, i0, k0⟩ := u_known (C := RX1) (T := TX1) (N := 6) htw uw_X1 (htw _ q_327)
  obtain ⟨c1, i1, k1⟩ := u_known (C := RX2) (T := TX2) (N := 4) htw uw_X2 (htw _ q_120)
  obtain ⟨c2, i2, k2⟩ := u_known (C := RX3) (T := TX3) (N := 4) htw uw_X3 (htw _ q_401)
  obtain ⟨c3, i3, k3⟩ := u_known (C := RX4) (T := TX4) (N := 2) htw uw_X4 (htw _ q_60)
  obtain ⟨c4, i4, k4⟩ := u_known (C := RX5) (T := TX5) (N := 6) htw uw_X5 (htw _ q_76)
  obtain ⟨c5, i5, k5⟩ := u_known (C := RX6) (T := TX6) (N := 7) htw uw_X6 (htw _ q_139)
  obtain ⟨c6, i6, k6⟩ := u_known (C := RX7) (T := TX7) (N := 3) htw uw_X7 (htw _ q_103)
  obtain ⟨c7, i7, k7⟩ := u_known (C := RX8) (T := TX8) (N := 6) htw uw_X8 (htw _ q_26)
  obtain ⟨c8, i8, k8⟩ := u_known (C := RX9) (T := TX9) (N := 7) htw uw_X9 (htw _ q_18)
  obtain ⟨c9, i9, k9⟩ := u_known (C := RX10) (T := TX10) (N := 23) htw uw_X10 (htw _ q_749)
  obtain ⟨ai, kki, cpi, ri1, ri2, ri3⟩ := st_arr (htw _ q_58)
  obtain ⟨aj, kkj, cpj, rj1, rj2, rj3⟩ := st_arr (htw _ q_169)
  obtain ⟨az, kkz, cpz, rz1, rz2, rz3⟩ := st_arr (htw _ q_168)
  obtain ⟨aL, rL⟩ := st_obj (C := RX1) (tw 32 (by decide +kernel))
  obtain ⟨aO, rO⟩ := st_obj (C := RX3) (tw 34 (by decide +kernel))
  obtain ⟨aW, rW⟩ := st_obj (C := RX8) (tw 66 (by decide +kernel))
  obtain ⟨adK, adV, hS, hE⟩ := vk_Sof (args := #[Value.ref b]) (s := s) (N := 4) (tm := fun i => Term.string RX5 (st_idx.getD i 0)) (len := st_len) (byt := st_byt) (A := fun q => s.heap.size ≤ q)
    (fun i hi => match i, hi with
      | 0, _ => by decide
      | 1, _ => by decide
      | 2, _ => by decide
      | 3, _ => by decide
      | n + 4, h => absurd h (by omega))
    (fun i hi => match i, hi with
      | 0, _ => hs _ (by decide +kernel)
      | 1, _ => hs _ (by decide +kernel)
      | 2, _ => hs _ (by decide +kernel)
      | 3, _ => hs _ (by decide +kernel)
      | n + 4, h => absurd h (by omega))
    (fun i hi => match i, hi with
      | 0, _ => hs _ (by decide +kernel)
      | 1, _ => hs _ (by decide +kernel)
      | 2, _ => hs _ (by decide +kernel)
      | 3, _ => hs _ (by decide +kernel)
      | n + 4, h => absurd h (by omega))
    (fun i hi => match i, hi with
      | 0, _ => hs _ (by decide +kernel)
      | 1, _ => hs _ (by decide +kernel)
      | 2, _ => hs _ (by decide +kernel)
      | 3, _ => hs _ (by decide +kernel)
      | n + 4, h => absurd h (by omega))
    (fun i hi => match i, hi with
      | 0, _ => hs _ (by decide +kernel)
      | 1, _ => hs _ (by decide +kernel)
      | 2, _ => hs _ (by decide +kernel)
      | 3, _ => hs _ (by decide +kernel)
      | n + 4, h => absurd h (by omega))
    (fun i hi j hj => match i, j, hi, hj with
      | 0, 0, _, _ => hs _ (by decide +kernel)
      | 0, 1, _, _ => hs _ (by decide +kernel)
      | 0, 2, _, _ => hs _ (by decide +kernel)
      | 0, n + 3, _, h => absurd h (by show ¬ n + 3 < 3; omega)
      | 1, 0, _, _ => hs _ (by decide +kernel)
      | 1, 1, _, _ => hs _ (by decide +kernel)
      | 1, 2, _, _ => hs _ (by decide +kernel)
      | 1, 3, _, _ => hs _ (by decide +kernel)
      | 1, n + 4, _, h => absurd h (by show ¬ n + 4 < 4; omega)
      | 2, 0, _, _ => hs _ (by decide +kernel)
      | 2, 1, _, _ => hs _ (by decide +kernel)
      | 2, 2, _, _ => hs _ (by decide +kernel)
      | 2, 3, _, _ => hs _ (by decide +kernel)
      | 2, n + 4, _, h => absurd h (by show ¬ n + 4 < 4; omega)
      | 3, 0, _, _ => hs _ (by decide +kernel)
      | 3, 1, _, _ => hs _ (by decide +kernel)
      | 3, 2, _, _ => hs _ (by decide +kernel)
      | 3, n + 3, _, h => absurd h (by show ¬ n + 3 < 3; omega)
      | n + 4, _, h, _ => absurd h (by omega))
    (fun i j hi hj hn => match i, j, hi, hj, hn with
      | 0, 0, _, _, h => absurd rfl h
      | 0, 1, _, _, _ => Or.inl (hs _ (by decide +kernel))
      | 0, 2, _, _, _ => Or.inl (hs _ (by decide +kernel))
      | 0, 3, _, _, _ => Or.inl (hs _ (by decide +kernel))
      | 0, n + 4, _, h, _ => absurd h (by omega)
      | 1, 0, _, _, _ => Or.inr (hs _ (by decide +kernel))
      | 1, 1, _, _, h => absurd rfl h
      | 1, 2, _, _, _ => Or.inl (hs _ (by decide +kernel))
      | 1, 3, _, _, _ => Or.inl (hs _ (by decide +kernel))
      | 1, n + 4, _, h, _ => absurd h (by omega)
      | 2, 0, _, _, _ => Or.inr (hs _ (by decide +kernel))
      | 2, 1, _, _, _ => Or.inr (hs _ (by decide +kernel))
      | 2, 2, _, _, h => absurd rfl h
      | 2, 3, _, _, _ => Or.inl (hs _ (by decide +kernel))
      | 2, n + 4, _, h, _ => absurd h (by omega)
      | 3, 0, _, _, _ => Or.inr (hs _ (by decide +kernel))
      | 3, 1, _, _, _ => Or.inr (hs _ (by decide +kernel))
      | 3, 2, _, _, _ => Or.inr (hs _ (by decide +kernel))
      | 3, 3, _, _, h => absurd rfl h
      | 3, n + 4, _, h, _ => absurd h (by omega)
      | n + 4, _, h, _, _ => absurd h (by omega)) hA
  refine ⟨((pk10 c0 c1 c2 c3 c4 c5 c6 c7 c8 c9, pk10 i0 i1 i2 i3 i4 i5 i6 i7 i8 i9), pkC ai aj az aL aO aW, s.heap, adK, adV, scM b L xs), ⟨⟨fun c q hq => ?_, fun k q hq => ?_⟩, ?_, ⟨va_AO.of (tw 32 (by decide +kernel)), va_AO.of (tw 34 (by decide +kernel)), va_AO.of (tw 66 (by decide +kernel))⟩, fun i hi => ?_, hS, va_Zof (tw 263 (by decide +kernel)) (htw _ q_10) (va_eqi (hs _ (by decide +kernel))) hA, va_Zqof (tw 279 (by decide +kernel)) (htw _ q_12) (hs _ (by decide +kernel)) hA, fun q c hq => ?_⟩, rfl, rfl⟩
  · match c, hq with
    | 0, hq => cases (show some (RX1, TX1, 6) = some q from hq); exact k0
    | 1, hq => cases (show some (RX2, TX2, 4) = some q from hq); exact k1
    | 2, hq => cases (show some (RX3, TX3, 4) = some q from hq); exact k2
    | 3, hq => cases (show some (RX4, TX4, 2) = some q from hq); exact k3
    | 4, hq => cases (show some (RX5, TX5, 6) = some q from hq); exact k4
    | 5, hq => cases (show some (RX6, TX6, 7) = some q from hq); exact k5
    | 6, hq => cases (show some (RX7, TX7, 3) = some q from hq); exact k6
    | 7, hq => cases (show some (RX8, TX8, 6) = some q from hq); exact k7
    | 8, hq => cases (show some (RX9, TX9, 7) = some q from hq); exact k8
    | 9, hq => cases (show some (RX10, TX10, 23) = some q from hq); exact k9
    | n + 10, hq => exact absurd (show none = some q from hq) (by simp)
  · match k, hq with
    | 0, hq => cases (show some (ai, FieldType.int) = some q from hq); exact ⟨st_of ri2 ri3, ri1⟩
    | 1, hq => cases (show some (aj, FieldType.long) = some q from hq); exact ⟨st_of rj2 rj3, rj1⟩
    | 2, hq => cases (show some (az, FieldType.boolean) = some q from hq); exact ⟨st_of rz2 rz3, rz1⟩
    | 3, hq => cases (show some (aL, FieldType.object RX1) = some q from hq); exact rL
    | 4, hq => cases (show some (aO, FieldType.object RX3) = some q from hq); exact rO
    | 5, hq => cases (show some (aW, FieldType.object RX8) = some q from hq); exact rW
    | n + 6, hq => exact absurd (show none = some q from hq) (by simp)
  · exact List.forall_mem_cons.mpr ⟨va_Nw.of rfl (tw 61 (by decide +kernel)), List.forall_mem_cons.mpr ⟨va_Nw.of rfl (tw 77 (by decide +kernel)), List.forall_mem_cons.mpr ⟨va_Nw.of rfl (tw 104 (by decide +kernel)), List.forall_mem_cons.mpr ⟨va_Nw.of rfl (tw 121 (by decide +kernel)), List.forall_mem_cons.mpr ⟨va_Nw.of rfl (tw 140 (by decide +kernel)), List.forall_mem_cons.mpr ⟨va_Nw.of rfl (tw 203 (by decide +kernel)), List.forall_mem_cons.mpr ⟨va_Nw.of rfl (tw 226 (by decide +kernel)), List.forall_mem_cons.mpr ⟨va_Nw.of rfl (tw 380 (by decide +kernel)), List.forall_mem_cons.mpr ⟨va_Nw.of rfl (tw 543 (by decide +kernel)), List.forall_mem_cons.mpr ⟨va_Nw.of rfl (tw 580 (by decide +kernel)), List.forall_mem_cons.mpr ⟨va_Nw.of rfl (tw 594 (by decide +kernel)), List.forall_mem_cons.mpr ⟨va_Nw.of rfl (tw 631 (by decide +kernel)), List.forall_mem_cons.mpr ⟨va_Nw.of rfl (tw 693 (by decide +kernel)), List.forall_mem_cons.mpr ⟨va_Nw.of rfl (tw 694 (by decide +kernel)), List.forall_mem_cons.mpr ⟨va_Nw.of rfl (tw 701 (by decide +kernel)), List.forall_mem_cons.mpr ⟨va_Nw.of rfl (tw 708 (by decide +kernel)), fun _ h => absurd h List.not_mem_nil⟩⟩⟩⟩⟩⟩⟩⟩⟩⟩⟩⟩⟩⟩⟩⟩
  · match i, hi with
    | 0, _ => exact vk_R.of (tw 249 (by decide +kernel)) (hE 0 (by decide))
    | 1, _ => exact vk_R.of (tw 371 (by decide +kernel)) (hE 1 (by decide))
    | 2, _ => exact vk_R.of (tw 387 (by decide +kernel)) (hE 2 (by decide))
    | 3, _ => exact vk_R.of (tw 432 (by decide +kernel)) (hE 3 (by decide))
    | n + 4, h => exact absurd h (by omega)
  · have hq : (if q = b then some (L, fun j => (xs j).toInt) else none) = some c := hq
    by_cases z : q = b
    · rw [if_pos z] at hq
      cases hq
      rw [z]
      refine ⟨hbl, by show L < 2147483648; omega, fun j => ⟨(xs j).le_toInt, by show (xs j).toInt ≤ 2147483647; have := (xs j).toInt_lt; omega⟩, ?_⟩
      show va_X b L (fun j => Int32.ofInt (xs j).toInt) s s.heap
      have e : (fun j => Int32.ofInt (xs j).toInt) = xs := by
        funext j
        exact Int32.ofInt_toInt _
      rw [e]
      exact hX
    · rw [if_neg z] at hq
      cases hq
set_option maxRecDepth 100000 in
set_option maxHeartbeats 4000000 in
theorem whole_start {p : Program} {e : Env} {s : State} {m : MethodId} {below : List Frame} {meth : Method} {c : Code} (l : Launch) (hflags : l.flags = flags0) {b L : Nat} {xs : Nat → Int32} (hL : L ≤ 3584) (C0 : lw_At p s m meth c b L xs) : W p l e room_1 s m #[Value.ref b] below meth c s.heap [] 0 0 (lw_Z below #[Value.ref b] s) (entryFrame m ([Value.ref b] : List Value).toArray 4) := by
  obtain ⟨hx, hb, hr, hml, hown, hts, hX, hbl, hlk, hgv, hnm⟩ := C0
  obtain ⟨G, hK, gh, gm⟩ := st_kn hts hX hbl hL hgv
  have htw : ∀ w ∈ lwW, w.before #[Value.ref b] s = true := fun w hw => hts w (List.mem_filter.mp hw).1
  obtain ⟨h0, eh⟩ : ∃ h0 : AbH, h0 = (fun _ => none, fun _ => none, fun _ => none, fun _ => none, fun _ => none, gM G, fun a k => k < 4 ∧ a = gK G k, fun a k => k < 4 ∧ a = gV G k) := ⟨_, rfl⟩
  have nO : ∀ q, hpO h0 q = none := fun q => by rw [eh]; rfl
  have nI : ∀ q, hpI h0 q = none := fun q => by rw [eh]; rfl
  have nJ : ∀ q, hpJ h0 q = none := fun q => by rw [eh]; rfl
  have nZ : ∀ q, hpZ h0 q = none := fun q => by rw [eh]; rfl
  have nR : ∀ q, hpR h0 q = none := fun q => by rw [eh]; rfl
  have nA : ∀ q x, ¬ ab_at G h0 q x := fun q => ab_new_at ⟨nO q, nI q, nJ q, nZ q, nR q⟩
  have hR : Rl G h0 s.heap := by
    refine ⟨fun q x hx => absurd hx (nA q x), fun q x y hx => absurd hx (nA q x), ⟨fun q c e => ?_, fun q c e => ?_, fun q c e => ?_, fun q c e => ?_, fun q c e => ?_⟩, ⟨by rw [eh]; rfl, by rw [eh]; rfl, by rw [eh]; rfl⟩, by rw [gh]; exact Nat.le_refl _, fun q _ => by rw [gh]⟩
    · rw [nO] at e; cases e
    · rw [nI] at e; cases e
    · rw [nJ] at e; cases e
    · rw [nZ] at e; cases e
    · rw [nR] at e; cases e
  have sx : hpX h0 b = some (L, fun j => (xs j).toInt) := by
    have : hpX h0 = gM G := by rw [eh]; rfl
    rw [this, gm]
    exact if_pos rfl
  have hB : ∀ j, j < 4 → ∃ b, hpB h0 b j := fun j hj => ⟨gV G j, by rw [eh]; exact ⟨hj, rfl⟩⟩
  have V := law_all (d := 0) (K := fun r _ => r = some (vI 1)) sx (fun j => ⟨(xs j).le_toInt, by have := (xs j).toInt_lt; omega⟩) hL hB (fun _ => rfl)
  have hl := lv_entry ([vR (some b)].map ab_cv) (n := 4) (by rw [ab_args_len]; show 1 ≤ 4; decide)
  rw [lg_entry_eq]
  have W0 := V l G p e room_1 s m #[Value.ref b] below meth c s.heap [] 0 0 _ ⟨hx, hb, hml, hr, hown, htw, hlk, hnm, hK, Nat.le_of_ble_eq_true rfl, Nat.le_of_ble_eq_true rfl, rfl, rfl⟩ (by rw [← ab_args_la] at hl; exact hl) (fun v h => by cases h) (ab_args_ok [vR (some b)] (fun a ha => by cases List.mem_singleton.mp ha; trivial)) hR (fun q h => by cases h) (Nat.le_refl _) (Nat.le_refl _)
  intro T hT X
  obtain ⟨t, a1, o, b1, b2, ⟨r, hh, ho, -, -, hr1⟩, LL, fe, fl⟩ := W0 T hT X
  have ho1 : o = .returned (some (.int 1)) := by
    rw [ho, hr1]
    rfl
  exact ⟨t, a1, o, b1, b2, ho1, st_fr fe ⟨_, ho1⟩ (fun q hq => by have := fl q hq; rw [gh] at this; exact this)⟩
