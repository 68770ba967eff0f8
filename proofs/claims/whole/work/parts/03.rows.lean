theorem i32_eq {n : Int} (h : in32 n) : (Int32.ofInt n).toInt = n := Int32.toInt_ofInt_of_le (by have := h.1; omega) (by have := h.2; omega)
theorem i64_eq {n : Int} (h : in64 n) : (Int64.ofInt n).toInt = n := Int64.toInt_ofInt_of_le (by have := h.1; omega) (by have := h.2; omega)
theorem i32_inj {a b : Int} (ha : in32 a) (hb : in32 b) : Int32.ofInt a = Int32.ofInt b ↔ a = b := by
  rw [← Int32.toInt_inj, i32_eq ha, i32_eq hb]
theorem i32_le {a b : Int} (ha : in32 a) (hb : in32 b) : Int32.ofInt a ≤ Int32.ofInt b ↔ a ≤ b := by
  rw [Int32.le_iff_toInt_le, i32_eq ha, i32_eq hb]
theorem i32_lt {a b : Int} (ha : in32 a) (hb : in32 b) : Int32.ofInt a < Int32.ofInt b ↔ a < b := by
  rw [Int32.lt_iff_toInt_lt, i32_eq ha, i32_eq hb]
theorem i32_nat {a : Int} (ha : in32 a) : (Int32.ofInt a).toNatClampNeg = a.toNat := Int32.toNatClampNeg_ofInt_of_le (by have := ha.1; omega) (by have := ha.2; omega)
theorem i32_0 : in32 0 := ⟨by decide, by decide⟩
theorem i32_in {i : Int} {n : Nat} (hi : in32 i) (h0 : 0 ≤ i) (hn : i < (n : Int)) : vp_in (Int32.ofInt i) n := by
  intro h
  rcases h with h | h
  · rw [show (0 : Int32) = Int32.ofInt 0 from rfl, i32_lt hi i32_0] at h
    omega
  · rw [i32_nat hi] at h
    omega

theorem rr_iload_n {d : Nat} {md : AbM} {bc bs pc pc' : Nat} {ls : List (Option AbV)} {st : List AbV} {h : AbH} {K : Option AbV → AbH → Prop} {i : Fin 4} {x : Int} (hd : decode (mC md) pc = .ok (.iload_n i, 1)) (hp : pc + 1 = pc') (hi : ls[(i : Nat)]? = some (some (vI x))) (k : Vx d md bc bs pc' ls (vI x :: st) h K) : Vx d md bc bs pc ls st h K := by
  intro l G p e R s m args below meth c H locs cells slots lsr C hL hst hls hR hlo hbc hbs
  have C0 := C
  obtain ⟨hx, hb, hml, hret, hown, hts, hlk, hnm, hKn, hd1, hd2, hRc, hRs⟩ := C0
  subst hp
  refine lv_iload_n hx hb hd rfl (hL.get hi) ?_
  exact k l G p e R s m args below meth c H locs cells slots lsr C hL (List.forall_mem_cons.mpr ⟨hls _ (List.mem_of_getElem? hi), hst⟩) hls hR hlo hbc hbs
theorem rr_iload {d : Nat} {md : AbM} {bc bs pc pc' : Nat} {ls : List (Option AbV)} {st : List AbV} {h : AbH} {K : Option AbV → AbH → Prop} {i : Nat} {x : Int} (hd : decode (mC md) pc = .ok (.iload i, 2)) (hp : pc + 2 = pc') (hi : ls[i]? = some (some (vI x))) (k : Vx d md bc bs pc' ls (vI x :: st) h K) : Vx d md bc bs pc ls st h K := by
  intro l G p e R s m args below meth c H locs cells slots lsr C hL hst hls hR hlo hbc hbs
  have C0 := C
  obtain ⟨hx, hb, hml, hret, hown, hts, hlk, hnm, hKn, hd1, hd2, hRc, hRs⟩ := C0
  subst hp
  refine lv_iload hx hb hd (hL.get hi) ?_
  exact k l G p e R s m args below meth c H locs cells slots lsr C hL (List.forall_mem_cons.mpr ⟨hls _ (List.mem_of_getElem? hi), hst⟩) hls hR hlo hbc hbs
theorem rr_lload_n {d : Nat} {md : AbM} {bc bs pc pc' : Nat} {ls : List (Option AbV)} {st : List AbV} {h : AbH} {K : Option AbV → AbH → Prop} {i : Fin 4} {x : Int} (hd : decode (mC md) pc = .ok (.lload_n i, 1)) (hp : pc + 1 = pc') (hi : ls[(i : Nat)]? = some (some (vL x))) (k : Vx d md bc bs pc' ls (vL x :: st) h K) : Vx d md bc bs pc ls st h K := by
  intro l G p e R s m args below meth c H locs cells slots lsr C hL hst hls hR hlo hbc hbs
  have C0 := C
  obtain ⟨hx, hb, hml, hret, hown, hts, hlk, hnm, hKn, hd1, hd2, hRc, hRs⟩ := C0
  subst hp
  refine lv_lload_n hx hb hd rfl (hL.get hi) ?_
  exact k l G p e R s m args below meth c H locs cells slots lsr C hL (List.forall_mem_cons.mpr ⟨hls _ (List.mem_of_getElem? hi), hst⟩) hls hR hlo hbc hbs
theorem rr_lload {d : Nat} {md : AbM} {bc bs pc pc' : Nat} {ls : List (Option AbV)} {st : List AbV} {h : AbH} {K : Option AbV → AbH → Prop} {i : Nat} {x : Int} (hd : decode (mC md) pc = .ok (.lload i, 2)) (hp : pc + 2 = pc') (hi : ls[i]? = some (some (vL x))) (k : Vx d md bc bs pc' ls (vL x :: st) h K) : Vx d md bc bs pc ls st h K := by
  intro l G p e R s m args below meth c H locs cells slots lsr C hL hst hls hR hlo hbc hbs
  have C0 := C
  obtain ⟨hx, hb, hml, hret, hown, hts, hlk, hnm, hKn, hd1, hd2, hRc, hRs⟩ := C0
  subst hp
  refine lv_lload hx hb hd (hL.get hi) ?_
  exact k l G p e R s m args below meth c H locs cells slots lsr C hL (List.forall_mem_cons.mpr ⟨hls _ (List.mem_of_getElem? hi), hst⟩) hls hR hlo hbc hbs
theorem rr_aload_n {d : Nat} {md : AbM} {bc bs pc pc' : Nat} {ls : List (Option AbV)} {st : List AbV} {h : AbH} {K : Option AbV → AbH → Prop} {i : Fin 4} {r : Option Nat} (hd : decode (mC md) pc = .ok (.aload_n i, 1)) (hp : pc + 1 = pc') (hi : ls[(i : Nat)]? = some (some (vR r))) (k : Vx d md bc bs pc' ls (vR r :: st) h K) : Vx d md bc bs pc ls st h K := by
  intro l G p e R s m args below meth c H locs cells slots lsr C hL hst hls hR hlo hbc hbs
  have C0 := C
  obtain ⟨hx, hb, hml, hret, hown, hts, hlk, hnm, hKn, hd1, hd2, hRc, hRs⟩ := C0
  subst hp
  have k2 := k l G p e R s m args below meth c H locs cells slots lsr C hL (List.forall_mem_cons.mpr ⟨trivial, hst⟩) hls hR hlo hbc hbs
  cases r with
  | none => exact lv_aload_nN hx hb hd rfl (hL.get hi) k2
  | some a => exact lv_aload_n hx hb hd rfl (hL.get hi) k2
theorem rr_aload {d : Nat} {md : AbM} {bc bs pc pc' : Nat} {ls : List (Option AbV)} {st : List AbV} {h : AbH} {K : Option AbV → AbH → Prop} {i : Nat} {r : Option Nat} (hd : decode (mC md) pc = .ok (.aload i, 2)) (hp : pc + 2 = pc') (hi : ls[i]? = some (some (vR r))) (k : Vx d md bc bs pc' ls (vR r :: st) h K) : Vx d md bc bs pc ls st h K := by
  intro l G p e R s m args below meth c H locs cells slots lsr C hL hst hls hR hlo hbc hbs
  have C0 := C
  obtain ⟨hx, hb, hml, hret, hown, hts, hlk, hnm, hKn, hd1, hd2, hRc, hRs⟩ := C0
  subst hp
  have k2 := k l G p e R s m args below meth c H locs cells slots lsr C hL (List.forall_mem_cons.mpr ⟨trivial, hst⟩) hls hR hlo hbc hbs
  cases r with
  | none => exact lv_aloadN hx hb hd (hL.get hi) k2
  | some a => exact lv_aload hx hb hd (hL.get hi) k2
def ab_pl (ls : List (Option AbV)) (i : Nat) : Prop := match i with
  | 0 => True
  | i + 1 => ∀ n : Int, ls[i]? ≠ some (some (vL n))
theorem lvR.st1 {lsr : Array Slot} {n i : Nat} {ls : List (Option AbV)} {v : AbV} (hc : (ab_cv v).category = 1) (h : ab_pl ls i) (hL : lv_has lsr n ((i, ab_cv v) :: (ab_la 0 ls).filter (fun q => !(q.1 == i) && !(q.1 + 1 == i && q.2.category == 2)))) : lvR lsr n (ls.set i (some v)) := by
  refine ⟨hL.1, hL.2.1, fun q hq => ?_⟩
  obtain ⟨j, w, e1, e2⟩ := ab_la_inv _ 0 q hq
  subst e1
  rw [Nat.zero_add] at hq ⊢
  rw [List.getElem?_set] at e2
  refine hL.2.2 _ ?_
  split at e2
  next hij =>
    subst hij
    split at e2
    · cases e2
      exact List.mem_cons_self
    · cases e2
  next hij =>
    refine List.mem_cons_of_mem _ (List.mem_filter.mpr ⟨by simpa using ab_la_mem ls 0 j w e2, ?_⟩)
    have h1 : (j == i) = false := by simpa using fun q => hij q.symm
    by_cases h2 : j + 1 = i
    · subst h2
      have h3 : ((ab_cv w).category == 2) = false := by
        rcases w with x | x | x
        · rfl
        · exact absurd e2 (h x)
        · show ((va_rf x).category == 2) = false
          rw [ab_cat]; rfl
      simp [h1, h3]
    · have h4 : (j + 1 == i) = false := by simpa using h2
      simp [h1, h4]
theorem lvR.st2 {lsr : Array Slot} {n i : Nat} {ls : List (Option AbV)} {x : Int} (h : ab_pl ls i) (hL : lv_has lsr n ((i, ab_cv (vL x)) :: (ab_la 0 ls).filter (fun q => !(q.1 == i) && (!(q.1 == i + 1) && !(q.1 + 1 == i && q.2.category == 2))))) : lvR lsr n ((ls.set i (some (vL x))).set (i + 1) none) := by
  refine ⟨hL.1, hL.2.1, fun q hq => ?_⟩
  obtain ⟨j, w, e1, e2⟩ := ab_la_inv _ 0 q hq
  subst e1
  rw [Nat.zero_add] at hq ⊢
  rw [List.getElem?_set] at e2
  refine hL.2.2 _ ?_
  split at e2
  next hij =>
    subst hij
    split at e2
    · cases e2
    · cases e2
  next hij1 =>
    rw [List.getElem?_set] at e2
    split at e2
    next hij =>
      subst hij
      split at e2
      · cases e2
        exact List.mem_cons_self
      · cases e2
    next hij =>
      refine List.mem_cons_of_mem _ (List.mem_filter.mpr ⟨by simpa using ab_la_mem ls 0 j w e2, ?_⟩)
      have h1 : (j == i) = false := by simpa using fun q => hij q.symm
      have h0 : (j == i + 1) = false := by simpa using fun q => hij1 q.symm
      by_cases h2 : j + 1 = i
      · subst h2
        have h3 : ((ab_cv w).category == 2) = false := by
          rcases w with x | x | x
          · rfl
          · exact absurd e2 (h x)
          · show ((va_rf x).category == 2) = false
            rw [ab_cat]; rfl
        simp [h1, h0, h3]
      · have h4 : (j + 1 == i) = false := by simpa using h2
        simp [h1, h0, h4]
theorem ab_set_ok {ls : List (Option AbV)} {i : Nat} {v : AbV} (hls : ∀ w, some w ∈ ls → ab_ok w) (hv : ab_ok v) : ∀ w, some w ∈ ls.set i (some v) → ab_ok w := by
  intro w hw
  rcases List.mem_or_eq_of_mem_set hw with h | h
  · exact hls w h
  · cases h; exact hv
theorem ab_set_ok0 {ls : List (Option AbV)} {i : Nat} (hls : ∀ w, some w ∈ ls → ab_ok w) : ∀ w, some w ∈ ls.set i none → ab_ok w := by
  intro w hw
  rcases List.mem_or_eq_of_mem_set hw with h | h
  · exact hls w h
  · cases h
theorem rr_istore_n {d : Nat} {md : AbM} {bc bs pc pc' : Nat} {ls : List (Option AbV)} {st : List AbV} {h : AbH} {K : Option AbV → AbH → Prop} {ls' : List (Option AbV)} {i : Fin 4} {x : Int} (hd : decode (mC md) pc = .ok (.istore_n i, 1)) (hp : pc + 1 = pc') (hn : (i : Nat) < mL md) (hpl : ab_pl ls (i : Nat)) (hl : ls.set (i : Nat) (some (vI x)) = ls') (k : Vx d md bc bs pc' ls' st h K) : Vx d md bc bs pc ls (vI x :: st) h K := by
  intro l G p e R s m args below meth c H locs cells slots lsr C hL hst hls hR hlo hbc hbs
  have C0 := C
  obtain ⟨hx, hb, hml, hret, hown, hts, hlk, hnm, hKn, hd1, hd2, hRc, hRs⟩ := C0
  subst hp; subst hl
  exact lv_istore_n hx hb hd rfl hL hn rfl (fun lsr' hl' => k l G p e R s m args below meth c H locs cells slots lsr' C (lvR.st1 rfl hpl hl') (fun v hv => hst v (List.mem_cons_of_mem _ hv)) (ab_set_ok hls (hst _ List.mem_cons_self)) hR hlo hbc hbs)
theorem rr_istore {d : Nat} {md : AbM} {bc bs pc pc' : Nat} {ls : List (Option AbV)} {st : List AbV} {h : AbH} {K : Option AbV → AbH → Prop} {ls' : List (Option AbV)} {i : Nat} {x : Int} (hd : decode (mC md) pc = .ok (.istore i, 2)) (hp : pc + 2 = pc') (hn : i < mL md) (hpl : ab_pl ls i) (hl : ls.set i (some (vI x)) = ls') (k : Vx d md bc bs pc' ls' st h K) : Vx d md bc bs pc ls (vI x :: st) h K := by
  intro l G p e R s m args below meth c H locs cells slots lsr C hL hst hls hR hlo hbc hbs
  have C0 := C
  obtain ⟨hx, hb, hml, hret, hown, hts, hlk, hnm, hKn, hd1, hd2, hRc, hRs⟩ := C0
  subst hp; subst hl
  exact lv_istore hx hb hd hL hn rfl (fun lsr' hl' => k l G p e R s m args below meth c H locs cells slots lsr' C (lvR.st1 rfl hpl hl') (fun v hv => hst v (List.mem_cons_of_mem _ hv)) (ab_set_ok hls (hst _ List.mem_cons_self)) hR hlo hbc hbs)
theorem rr_astore_n {d : Nat} {md : AbM} {bc bs pc pc' : Nat} {ls : List (Option AbV)} {st : List AbV} {h : AbH} {K : Option AbV → AbH → Prop} {ls' : List (Option AbV)} {i : Fin 4} {x : Option Nat} (hd : decode (mC md) pc = .ok (.astore_n i, 1)) (hp : pc + 1 = pc') (hn : (i : Nat) < mL md) (hpl : ab_pl ls (i : Nat)) (hl : ls.set (i : Nat) (some (vR x)) = ls') (k : Vx d md bc bs pc' ls' st h K) : Vx d md bc bs pc ls (vR x :: st) h K := by
  intro l G p e R s m args below meth c H locs cells slots lsr C hL hst hls hR hlo hbc hbs
  have C0 := C
  obtain ⟨hx, hb, hml, hret, hown, hts, hlk, hnm, hKn, hd1, hd2, hRc, hRs⟩ := C0
  subst hp; subst hl
  cases x with
  | none => exact lv_astore_nN hx hb hd rfl hL hn rfl (fun lsr' hl' => k l G p e R s m args below meth c H locs cells slots lsr' C (lvR.st1 rfl hpl hl') (fun v hv => hst v (List.mem_cons_of_mem _ hv)) (ab_set_ok hls trivial) hR hlo hbc hbs)
  | some a => exact lv_astore_n hx hb hd rfl hL hn rfl (fun lsr' hl' => k l G p e R s m args below meth c H locs cells slots lsr' C (lvR.st1 rfl hpl hl') (fun v hv => hst v (List.mem_cons_of_mem _ hv)) (ab_set_ok hls trivial) hR hlo hbc hbs)
theorem rr_astore {d : Nat} {md : AbM} {bc bs pc pc' : Nat} {ls : List (Option AbV)} {st : List AbV} {h : AbH} {K : Option AbV → AbH → Prop} {ls' : List (Option AbV)} {i : Nat} {x : Option Nat} (hd : decode (mC md) pc = .ok (.astore i, 2)) (hp : pc + 2 = pc') (hn : i < mL md) (hpl : ab_pl ls i) (hl : ls.set i (some (vR x)) = ls') (k : Vx d md bc bs pc' ls' st h K) : Vx d md bc bs pc ls (vR x :: st) h K := by
  intro l G p e R s m args below meth c H locs cells slots lsr C hL hst hls hR hlo hbc hbs
  have C0 := C
  obtain ⟨hx, hb, hml, hret, hown, hts, hlk, hnm, hKn, hd1, hd2, hRc, hRs⟩ := C0
  subst hp; subst hl
  cases x with
  | none => exact lv_astoreN hx hb hd hL hn rfl (fun lsr' hl' => k l G p e R s m args below meth c H locs cells slots lsr' C (lvR.st1 rfl hpl hl') (fun v hv => hst v (List.mem_cons_of_mem _ hv)) (ab_set_ok hls trivial) hR hlo hbc hbs)
  | some a => exact lv_astore hx hb hd hL hn rfl (fun lsr' hl' => k l G p e R s m args below meth c H locs cells slots lsr' C (lvR.st1 rfl hpl hl') (fun v hv => hst v (List.mem_cons_of_mem _ hv)) (ab_set_ok hls trivial) hR hlo hbc hbs)
theorem rr_lstore_n {d : Nat} {md : AbM} {bc bs pc pc' : Nat} {ls : List (Option AbV)} {st : List AbV} {h : AbH} {K : Option AbV → AbH → Prop} {ls' : List (Option AbV)} {i : Fin 4} {x : Int} (hd : decode (mC md) pc = .ok (.lstore_n i, 1)) (hp : pc + 1 = pc') (hn : (i : Nat) + 1 < mL md) (hpl : ab_pl ls (i : Nat)) (hl : (ls.set (i : Nat) (some (vL x))).set ((i : Nat) + 1) none = ls') (k : Vx d md bc bs pc' ls' st h K) : Vx d md bc bs pc ls (vL x :: st) h K := by
  intro l G p e R s m args below meth c H locs cells slots lsr C hL hst hls hR hlo hbc hbs
  have C0 := C
  obtain ⟨hx, hb, hml, hret, hown, hts, hlk, hnm, hKn, hd1, hd2, hRc, hRs⟩ := C0
  subst hp; subst hl
  exact lv_lstore_n hx hb hd rfl hL hn rfl (fun lsr' hl' => k l G p e R s m args below meth c H locs cells slots lsr' C (lvR.st2 hpl hl') (fun v hv => hst v (List.mem_cons_of_mem _ hv)) (ab_set_ok0 (ab_set_ok hls (hst _ List.mem_cons_self))) hR hlo hbc hbs)
theorem rr_lstore {d : Nat} {md : AbM} {bc bs pc pc' : Nat} {ls : List (Option AbV)} {st : List AbV} {h : AbH} {K : Option AbV → AbH → Prop} {ls' : List (Option AbV)} {i : Nat} {x : Int} (hd : decode (mC md) pc = .ok (.lstore i, 2)) (hp : pc + 2 = pc') (hn : i + 1 < mL md) (hpl : ab_pl ls i) (hl : (ls.set i (some (vL x))).set (i + 1) none = ls') (k : Vx d md bc bs pc' ls' st h K) : Vx d md bc bs pc ls (vL x :: st) h K := by
  intro l G p e R s m args below meth c H locs cells slots lsr C hL hst hls hR hlo hbc hbs
  have C0 := C
  obtain ⟨hx, hb, hml, hret, hown, hts, hlk, hnm, hKn, hd1, hd2, hRc, hRs⟩ := C0
  subst hp; subst hl
  exact lv_lstore hx hb hd hL hn rfl (fun lsr' hl' => k l G p e R s m args below meth c H locs cells slots lsr' C (lvR.st2 hpl hl') (fun v hv => hst v (List.mem_cons_of_mem _ hv)) (ab_set_ok0 (ab_set_ok hls (hst _ List.mem_cons_self))) hR hlo hbc hbs)
theorem rr_iinc {d : Nat} {md : AbM} {bc bs pc pc' : Nat} {ls : List (Option AbV)} {st : List AbV} {h : AbH} {K : Option AbV → AbH → Prop} {ls' : List (Option AbV)} {i : Nat} {n x : Int} (hd : decode (mC md) pc = .ok (.iinc i n, 3)) (hp : pc + 3 = pc') (hi : ls[i]? = some (some (vI x))) (hn : i < mL md) (hpl : ab_pl ls i) (hr : in32 (x + n)) (hl : ls.set i (some (vI (x + n))) = ls') (k : Vx d md bc bs pc' ls' st h K) : Vx d md bc bs pc ls st h K := by
  intro l G p e R s m args below meth c H locs cells slots lsr C hL hst hls hR hlo hbc hbs
  have C0 := C
  obtain ⟨hx, hb, hml, hret, hown, hts, hlk, hnm, hKn, hd1, hd2, hRc, hRs⟩ := C0
  subst hp; subst hl
  obtain ⟨z, hz⟩ := List.getElem?_of_mem (by simpa using ab_la_mem ls 0 i (vI x) hi)
  exact lv_iinc hx hb hd hL (k := z) hz (v := Int32.ofInt (x + n)) (by rw [Int32.ofInt_add]) hn rfl (fun lsr' hl' => k l G p e R s m args below meth c H locs cells slots lsr' C (lvR.st1 (v := vI (x + n)) rfl hpl hl') hst (ab_set_ok hls hr) hR hlo hbc hbs)
theorem rr_iconst {d : Nat} {md : AbM} {bc bs pc pc' : Nat} {ls : List (Option AbV)} {st : List AbV} {h : AbH} {K : Option AbV → AbH → Prop} {n : Int} (hd : decode (mC md) pc = .ok (.iconst n, 1)) (hp : pc + 1 = pc') (hn : in32 n) (k : Vx d md bc bs pc' ls (vI n :: st) h K) : Vx d md bc bs pc ls (st) h K := by
  intro l G p e R s m args below meth c H locs cells slots lsr C hL hst hls hR hlo hbc hbs
  have C0 := C
  obtain ⟨hx, hb, hml, hret, hown, hts, hlk, hnm, hKn, hd1, hd2, hRc, hRs⟩ := C0
  subst hp
  refine lv_iconst hx hb hd rfl ?_
  exact k l G p e R s m args below meth c H locs cells slots lsr C hL (List.forall_mem_cons.mpr ⟨hn, hst⟩) hls hR hlo hbc hbs
theorem rr_bipush {d : Nat} {md : AbM} {bc bs pc pc' : Nat} {ls : List (Option AbV)} {st : List AbV} {h : AbH} {K : Option AbV → AbH → Prop} {n : Int} (hd : decode (mC md) pc = .ok (.bipush n, 2)) (hp : pc + 2 = pc') (hn : in32 n) (hv : (Int8.ofInt n).toInt32 = Int32.ofInt n) (k : Vx d md bc bs pc' ls (vI n :: st) h K) : Vx d md bc bs pc ls (st) h K := by
  intro l G p e R s m args below meth c H locs cells slots lsr C hL hst hls hR hlo hbc hbs
  have C0 := C
  obtain ⟨hx, hb, hml, hret, hown, hts, hlk, hnm, hKn, hd1, hd2, hRc, hRs⟩ := C0
  subst hp
  refine lv_bipush hx hb hd (v := Int32.ofInt n) hv ?_
  exact k l G p e R s m args below meth c H locs cells slots lsr C hL (List.forall_mem_cons.mpr ⟨hn, hst⟩) hls hR hlo hbc hbs
theorem rr_sipush {d : Nat} {md : AbM} {bc bs pc pc' : Nat} {ls : List (Option AbV)} {st : List AbV} {h : AbH} {K : Option AbV → AbH → Prop} {n : Int} (hd : decode (mC md) pc = .ok (.sipush n, 3)) (hp : pc + 3 = pc') (hn : in32 n) (hv : (Int16.ofInt n).toInt32 = Int32.ofInt n) (k : Vx d md bc bs pc' ls (vI n :: st) h K) : Vx d md bc bs pc ls (st) h K := by
  intro l G p e R s m args below meth c H locs cells slots lsr C hL hst hls hR hlo hbc hbs
  have C0 := C
  obtain ⟨hx, hb, hml, hret, hown, hts, hlk, hnm, hKn, hd1, hd2, hRc, hRs⟩ := C0
  subst hp
  refine lv_sipush hx hb hd (v := Int32.ofInt n) hv ?_
  exact k l G p e R s m args below meth c H locs cells slots lsr C hL (List.forall_mem_cons.mpr ⟨hn, hst⟩) hls hR hlo hbc hbs
theorem rr_lconst {d : Nat} {md : AbM} {bc bs pc pc' : Nat} {ls : List (Option AbV)} {st : List AbV} {h : AbH} {K : Option AbV → AbH → Prop} {z : Fin 2} {n : Int} (hd : decode (mC md) pc = .ok (.lconst z, 1)) (hp : pc + 1 = pc') (hn : in64 n) (hv : Int64.ofNat (z : Nat) = Int64.ofInt n) (k : Vx d md bc bs pc' ls (vL n :: st) h K) : Vx d md bc bs pc ls (st) h K := by
  intro l G p e R s m args below meth c H locs cells slots lsr C hL hst hls hR hlo hbc hbs
  have C0 := C
  obtain ⟨hx, hb, hml, hret, hown, hts, hlk, hnm, hKn, hd1, hd2, hRc, hRs⟩ := C0
  subst hp
  refine lv_lconst hx hb hd (v := Int64.ofInt n) hv ?_
  exact k l G p e R s m args below meth c H locs cells slots lsr C hL (List.forall_mem_cons.mpr ⟨hn, hst⟩) hls hR hlo hbc hbs
theorem rr_ldc2 {d : Nat} {md : AbM} {bc bs pc pc' : Nat} {ls : List (Option AbV)} {st : List AbV} {h : AbH} {K : Option AbV → AbH → Prop} {i : Nat} {n : Int} {v : Int64} (hd : decode (mC md) pc = .ok (.ldc2_w i, 3)) (hp : pc + 3 = pc') (hw : Cond.constantLong (mY md).cls i v ∈ lwW) (hv : v = Int64.ofInt n) (hn : in64 n) (k : Vx d md bc bs pc' ls (vL n :: st) h K) : Vx d md bc bs pc ls (st) h K := by
  intro l G p e R s m args below meth c H locs cells slots lsr C hL hst hls hR hlo hbc hbs
  have C0 := C
  obtain ⟨hx, hb, hml, hret, hown, hts, hlk, hnm, hKn, hd1, hd2, hRc, hRs⟩ := C0
  subst hp
  subst hv
  refine lv_ldc2 hx hb hown (v := Int64.ofInt n) (hts _ hw) hd ?_
  exact k l G p e R s m args below meth c H locs cells slots lsr C hL (List.forall_mem_cons.mpr ⟨hn, hst⟩) hls hR hlo hbc hbs
theorem rr_null {d : Nat} {md : AbM} {bc bs pc pc' : Nat} {ls : List (Option AbV)} {st : List AbV} {h : AbH} {K : Option AbV → AbH → Prop}  (hd : decode (mC md) pc = .ok (.aconst_null, 1)) (hp : pc + 1 = pc')  (k : Vx d md bc bs pc' ls (vR none :: st) h K) : Vx d md bc bs pc ls (st) h K := by
  intro l G p e R s m args below meth c H locs cells slots lsr C hL hst hls hR hlo hbc hbs
  have C0 := C
  obtain ⟨hx, hb, hml, hret, hown, hts, hlk, hnm, hKn, hd1, hd2, hRc, hRs⟩ := C0
  subst hp
  refine lv_null hx hb hd ?_
  exact k l G p e R s m args below meth c H locs cells slots lsr C hL (List.forall_mem_cons.mpr ⟨trivial, hst⟩) hls hR hlo hbc hbs
theorem rr_dup {d : Nat} {md : AbM} {bc bs pc pc' : Nat} {ls : List (Option AbV)} {st : List AbV} {h : AbH} {K : Option AbV → AbH → Prop} {v : AbV} (hd : decode (mC md) pc = .ok (.dup, 1)) (hp : pc + 1 = pc') (hc : (ab_cv v).category = 1) (k : Vx d md bc bs pc' ls (v :: v :: st) h K) : Vx d md bc bs pc ls (v :: st) h K := by
  intro l G p e R s m args below meth c H locs cells slots lsr C hL hst hls hR hlo hbc hbs
  have C0 := C
  obtain ⟨hx, hb, hml, hret, hown, hts, hlk, hnm, hKn, hd1, hd2, hRc, hRs⟩ := C0
  subst hp
  refine lv_dup hx hb hd hc ?_
  exact k l G p e R s m args below meth c H locs cells slots lsr C hL (List.forall_mem_cons.mpr ⟨hst _ List.mem_cons_self, hst⟩) hls hR hlo hbc hbs
theorem rr_pop {d : Nat} {md : AbM} {bc bs pc pc' : Nat} {ls : List (Option AbV)} {st : List AbV} {h : AbH} {K : Option AbV → AbH → Prop} {v : AbV} (hd : decode (mC md) pc = .ok (.pop, 1)) (hp : pc + 1 = pc') (hc : (ab_cv v).category = 1) (k : Vx d md bc bs pc' ls (st) h K) : Vx d md bc bs pc ls (v :: st) h K := by
  intro l G p e R s m args below meth c H locs cells slots lsr C hL hst hls hR hlo hbc hbs
  have C0 := C
  obtain ⟨hx, hb, hml, hret, hown, hts, hlk, hnm, hKn, hd1, hd2, hRc, hRs⟩ := C0
  subst hp
  refine lv_pop hx hb hd hc ?_
  exact k l G p e R s m args below meth c H locs cells slots lsr C hL (fun w hw => hst w (List.mem_cons_of_mem _ hw)) hls hR hlo hbc hbs
theorem rr_dup2 {d : Nat} {md : AbM} {bc bs pc pc' : Nat} {ls : List (Option AbV)} {st : List AbV} {h : AbH} {K : Option AbV → AbH → Prop} {v w : AbV} (hd : decode (mC md) pc = .ok (.dup2, 1)) (hp : pc + 1 = pc') (hc : (ab_cv v).category = 1) (hc2 : (ab_cv w).category = 1) (k : Vx d md bc bs pc' ls (v :: w :: v :: w :: st) h K) : Vx d md bc bs pc ls (v :: w :: st) h K := by
  intro l G p e R s m args below meth c H locs cells slots lsr C hL hst hls hR hlo hbc hbs
  have C0 := C
  obtain ⟨hx, hb, hml, hret, hown, hts, hlk, hnm, hKn, hd1, hd2, hRc, hRs⟩ := C0
  subst hp
  refine lv_dup2_11 hx hb hd hc hc2 ?_
  exact k l G p e R s m args below meth c H locs cells slots lsr C hL (List.forall_mem_cons.mpr ⟨hst _ List.mem_cons_self, List.forall_mem_cons.mpr ⟨hst _ (List.mem_cons_of_mem _ List.mem_cons_self), hst⟩⟩) hls hR hlo hbc hbs
theorem rr_iadd {d : Nat} {md : AbM} {bc bs pc pc' : Nat} {ls : List (Option AbV)} {st : List AbV} {h : AbH} {K : Option AbV → AbH → Prop} {a b : Int} (hd : decode (mC md) pc = .ok (.iadd, 1)) (hp : pc + 1 = pc') (hr : in32 (a + b)) (k : Vx d md bc bs pc' ls (vI (a + b) :: st) h K) : Vx d md bc bs pc ls (vI b :: vI a :: st) h K := by
  intro l G p e R s m args below meth c H locs cells slots lsr C hL hst hls hR hlo hbc hbs
  have C0 := C
  obtain ⟨hx, hb, hml, hret, hown, hts, hlk, hnm, hKn, hd1, hd2, hRc, hRs⟩ := C0
  subst hp
  obtain ⟨hsb, hsta⟩ := List.forall_mem_cons.mp hst
  obtain ⟨hsa, hst⟩ := List.forall_mem_cons.mp hsta
  refine lv_iadd hx hb hd ?_
  rw [← Int32.ofInt_add]
  exact k l G p e R s m args below meth c H locs cells slots lsr C hL (List.forall_mem_cons.mpr ⟨hr, hst⟩) hls hR hlo hbc hbs
theorem rr_isub {d : Nat} {md : AbM} {bc bs pc pc' : Nat} {ls : List (Option AbV)} {st : List AbV} {h : AbH} {K : Option AbV → AbH → Prop} {a b : Int} (hd : decode (mC md) pc = .ok (.isub, 1)) (hp : pc + 1 = pc') (hr : in32 (a - b)) (k : Vx d md bc bs pc' ls (vI (a - b) :: st) h K) : Vx d md bc bs pc ls (vI b :: vI a :: st) h K := by
  intro l G p e R s m args below meth c H locs cells slots lsr C hL hst hls hR hlo hbc hbs
  have C0 := C
  obtain ⟨hx, hb, hml, hret, hown, hts, hlk, hnm, hKn, hd1, hd2, hRc, hRs⟩ := C0
  subst hp
  obtain ⟨hsb, hsta⟩ := List.forall_mem_cons.mp hst
  obtain ⟨hsa, hst⟩ := List.forall_mem_cons.mp hsta
  refine lv_isub hx hb hd ?_
  rw [← Int32.ofInt_sub]
  exact k l G p e R s m args below meth c H locs cells slots lsr C hL (List.forall_mem_cons.mpr ⟨hr, hst⟩) hls hR hlo hbc hbs
theorem rr_imul {d : Nat} {md : AbM} {bc bs pc pc' : Nat} {ls : List (Option AbV)} {st : List AbV} {h : AbH} {K : Option AbV → AbH → Prop} {a b : Int} (hd : decode (mC md) pc = .ok (.imul, 1)) (hp : pc + 1 = pc') (hr : in32 (a * b)) (k : Vx d md bc bs pc' ls (vI (a * b) :: st) h K) : Vx d md bc bs pc ls (vI b :: vI a :: st) h K := by
  intro l G p e R s m args below meth c H locs cells slots lsr C hL hst hls hR hlo hbc hbs
  have C0 := C
  obtain ⟨hx, hb, hml, hret, hown, hts, hlk, hnm, hKn, hd1, hd2, hRc, hRs⟩ := C0
  subst hp
  obtain ⟨hsb, hsta⟩ := List.forall_mem_cons.mp hst
  obtain ⟨hsa, hst⟩ := List.forall_mem_cons.mp hsta
  refine lv_imul hx hb hd ?_
  rw [← Int32.ofInt_mul]
  exact k l G p e R s m args below meth c H locs cells slots lsr C hL (List.forall_mem_cons.mpr ⟨hr, hst⟩) hls hR hlo hbc hbs
theorem i32_divp {a b : Int} (ha : in32 a) (hb : in32 b) (h0 : 0 ≤ a) (h : 0 < b) : in32 (a / b) ∧ in32 (a % b) := by
  have h1 : 0 ≤ a / b := Int.ediv_nonneg h0 (by omega)
  have h2 : a / b ≤ a := Int.ediv_le_self b h0
  have h3 : 0 ≤ a % b := Int.emod_nonneg a (by omega)
  have h4 : a % b < b := Int.emod_lt_of_pos a h
  unfold in32 at *
  omega
theorem i32_tdiv {a b : Int} (ha : in32 a) (hb : in32 b) (h0 : 0 ≤ a) (h : 0 < b) : Int32.ofInt a / Int32.ofInt b = Int32.ofInt (a / b) := by
  apply Int32.toInt_inj.mp
  rw [i32_eq (i32_divp ha hb h0 h).1, Int32.toInt_div_of_ne_right, i32_eq ha, i32_eq hb, Int.tdiv_eq_ediv_of_nonneg h0]
  intro e
  have := congrArg Int32.toInt e
  rw [i32_eq hb] at this
  have e2 : (-1 : Int32).toInt = -1 := rfl
  omega
theorem i32_tmod {a b : Int} (ha : in32 a) (hb : in32 b) (h0 : 0 ≤ a) (h : 0 < b) : Int32.ofInt a - Int32.ofInt a / Int32.ofInt b * Int32.ofInt b = Int32.ofInt (a % b) := by
  rw [i32_tdiv ha hb h0 h, ← Int32.ofInt_mul, ← Int32.ofInt_sub]
  congr 1
  have := Int.mul_ediv_add_emod a b
  rw [Int.mul_comm] at this
  omega
theorem i32_ne0 {b : Int} (hb : in32 b) (h : 0 < b) : ¬ Int32.ofInt b = 0 := by
  rw [show (0 : Int32) = Int32.ofInt 0 from rfl, i32_inj hb i32_0]
  omega
theorem rr_idiv {d : Nat} {md : AbM} {bc bs pc pc' : Nat} {ls : List (Option AbV)} {st : List AbV} {h : AbH} {K : Option AbV → AbH → Prop} {a b : Int} (hd : decode (mC md) pc = .ok (.idiv, 1)) (hp : pc + 1 = pc') (hr : 0 ≤ a ∧ 0 < b) (k : Vx d md bc bs pc' ls (vI (a / b) :: st) h K) : Vx d md bc bs pc ls (vI b :: vI a :: st) h K := by
  intro l G p e R s m args below meth c H locs cells slots lsr C hL hst hls hR hlo hbc hbs
  have C0 := C
  obtain ⟨hx, hb, hml, hret, hown, hts, hlk, hnm, hKn, hd1, hd2, hRc, hRs⟩ := C0
  subst hp
  obtain ⟨hsb, hsta⟩ := List.forall_mem_cons.mp hst
  obtain ⟨hsa, hst⟩ := List.forall_mem_cons.mp hsta
  refine lv_idiv hx hb hd (i32_ne0 hsb hr.2) ?_
  rw [i32_tdiv hsa hsb hr.1 hr.2]
  exact k l G p e R s m args below meth c H locs cells slots lsr C hL (List.forall_mem_cons.mpr ⟨(i32_divp hsa hsb hr.1 hr.2).1, hst⟩) hls hR hlo hbc hbs
theorem rr_irem {d : Nat} {md : AbM} {bc bs pc pc' : Nat} {ls : List (Option AbV)} {st : List AbV} {h : AbH} {K : Option AbV → AbH → Prop} {a b : Int} (hd : decode (mC md) pc = .ok (.irem, 1)) (hp : pc + 1 = pc') (hr : 0 ≤ a ∧ 0 < b) (k : Vx d md bc bs pc' ls (vI (a % b) :: st) h K) : Vx d md bc bs pc ls (vI b :: vI a :: st) h K := by
  intro l G p e R s m args below meth c H locs cells slots lsr C hL hst hls hR hlo hbc hbs
  have C0 := C
  obtain ⟨hx, hb, hml, hret, hown, hts, hlk, hnm, hKn, hd1, hd2, hRc, hRs⟩ := C0
  subst hp
  obtain ⟨hsb, hsta⟩ := List.forall_mem_cons.mp hst
  obtain ⟨hsa, hst⟩ := List.forall_mem_cons.mp hsta
  refine lv_irem hx hb hd (i32_ne0 hsb hr.2) ?_
  rw [i32_tmod hsa hsb hr.1 hr.2]
  exact k l G p e R s m args below meth c H locs cells slots lsr C hL (List.forall_mem_cons.mpr ⟨(i32_divp hsa hsb hr.1 hr.2).2, hst⟩) hls hR hlo hbc hbs
theorem rr_i2l {d : Nat} {md : AbM} {bc bs pc pc' : Nat} {ls : List (Option AbV)} {st : List AbV} {h : AbH} {K : Option AbV → AbH → Prop} {a : Int} (hd : decode (mC md) pc = .ok (.i2l, 1)) (hp : pc + 1 = pc')  (k : Vx d md bc bs pc' ls (vL a :: st) h K) : Vx d md bc bs pc ls (vI a :: st) h K := by
  intro l G p e R s m args below meth c H locs cells slots lsr C hL hst hls hR hlo hbc hbs
  have C0 := C
  obtain ⟨hx, hb, hml, hret, hown, hts, hlk, hnm, hKn, hd1, hd2, hRc, hRs⟩ := C0
  subst hp
  obtain ⟨hsa, hst⟩ := List.forall_mem_cons.mp hst
  have hsa : in32 a := hsa
  refine lv_i2l hx hb hd (v := Int64.ofInt a) (Int32.toInt64_ofInt (by have := hsa.1; exact this) (by have := hsa.2; exact this)) ?_
  exact k l G p e R s m args below meth c H locs cells slots lsr C hL (List.forall_mem_cons.mpr ⟨⟨by have := hsa.1; omega, by have := hsa.2; omega⟩, hst⟩) hls hR hlo hbc hbs
theorem rr_l2i {d : Nat} {md : AbM} {bc bs pc pc' : Nat} {ls : List (Option AbV)} {st : List AbV} {h : AbH} {K : Option AbV → AbH → Prop} {a : Int} (hd : decode (mC md) pc = .ok (.l2i, 1)) (hp : pc + 1 = pc') (hr : in32 a) (k : Vx d md bc bs pc' ls (vI a :: st) h K) : Vx d md bc bs pc ls (vL a :: st) h K := by
  intro l G p e R s m args below meth c H locs cells slots lsr C hL hst hls hR hlo hbc hbs
  have C0 := C
  obtain ⟨hx, hb, hml, hret, hown, hts, hlk, hnm, hKn, hd1, hd2, hRc, hRs⟩ := C0
  subst hp
  obtain ⟨hsa, hst⟩ := List.forall_mem_cons.mp hst
  refine lv_l2i hx hb hd (v := Int32.ofInt a) Int64.toInt32_ofInt ?_
  exact k l G p e R s m args below meth c H locs cells slots lsr C hL (List.forall_mem_cons.mpr ⟨hr, hst⟩) hls hR hlo hbc hbs
theorem rr_icmp_eq {d : Nat} {md : AbM} {bc bs pc pc' : Nat} {ls : List (Option AbV)} {st : List AbV} {h : AbH} {K : Option AbV → AbH → Prop} {off : Int} {tgt : Nat} {a b : Int} (hd : decode (mC md) pc = .ok (.if_icmp .eq off, 3)) (hp : pc + 3 = pc') (ht : (pc : Int) + off = (tgt : Int)) (kt : a = b → Vx d md bc bs tgt ls st h K) (kf : ¬ (a = b) → Vx d md bc bs pc' ls st h K) : Vx d md bc bs pc ls (vI b :: vI a :: st) h K := by
  intro l G p e R s m args below meth c H locs cells slots lsr C hL hst hls hR hlo hbc hbs
  have C0 := C
  obtain ⟨hx, hb, hml, hret, hown, hts, hlk, hnm, hKn, hd1, hd2, hRc, hRs⟩ := C0
  subst hp
  obtain ⟨hsb, hsta⟩ := List.forall_mem_cons.mp hst
  obtain ⟨hsa, hst⟩ := List.forall_mem_cons.mp hsta
  have hsa : in32 a := hsa
  have hsb : in32 b := hsb
  exact lv_icmp_eq hx hb hd ht (fun hc => kt ((i32_inj hsa hsb).mp hc) l G p e R s m args below meth c H locs cells slots lsr C hL hst hls hR hlo hbc hbs) (fun hc => kf (fun z => hc ((i32_inj hsa hsb).mpr z)) l G p e R s m args below meth c H locs cells slots lsr C hL hst hls hR hlo hbc hbs)
theorem rr_icmp_ne {d : Nat} {md : AbM} {bc bs pc pc' : Nat} {ls : List (Option AbV)} {st : List AbV} {h : AbH} {K : Option AbV → AbH → Prop} {off : Int} {tgt : Nat} {a b : Int} (hd : decode (mC md) pc = .ok (.if_icmp .ne off, 3)) (hp : pc + 3 = pc') (ht : (pc : Int) + off = (tgt : Int)) (kt : a ≠ b → Vx d md bc bs tgt ls st h K) (kf : ¬ (a ≠ b) → Vx d md bc bs pc' ls st h K) : Vx d md bc bs pc ls (vI b :: vI a :: st) h K := by
  intro l G p e R s m args below meth c H locs cells slots lsr C hL hst hls hR hlo hbc hbs
  have C0 := C
  obtain ⟨hx, hb, hml, hret, hown, hts, hlk, hnm, hKn, hd1, hd2, hRc, hRs⟩ := C0
  subst hp
  obtain ⟨hsb, hsta⟩ := List.forall_mem_cons.mp hst
  obtain ⟨hsa, hst⟩ := List.forall_mem_cons.mp hsta
  have hsa : in32 a := hsa
  have hsb : in32 b := hsb
  exact lv_icmp_ne hx hb hd ht (fun hc => kt ((not_congr (i32_inj hsa hsb)).mp hc) l G p e R s m args below meth c H locs cells slots lsr C hL hst hls hR hlo hbc hbs) (fun hc => kf (fun z => z ((i32_inj hsa hsb).mp hc)) l G p e R s m args below meth c H locs cells slots lsr C hL hst hls hR hlo hbc hbs)
theorem rr_icmp_lt {d : Nat} {md : AbM} {bc bs pc pc' : Nat} {ls : List (Option AbV)} {st : List AbV} {h : AbH} {K : Option AbV → AbH → Prop} {off : Int} {tgt : Nat} {a b : Int} (hd : decode (mC md) pc = .ok (.if_icmp .lt off, 3)) (hp : pc + 3 = pc') (ht : (pc : Int) + off = (tgt : Int)) (kt : a < b → Vx d md bc bs tgt ls st h K) (kf : ¬ (a < b) → Vx d md bc bs pc' ls st h K) : Vx d md bc bs pc ls (vI b :: vI a :: st) h K := by
  intro l G p e R s m args below meth c H locs cells slots lsr C hL hst hls hR hlo hbc hbs
  have C0 := C
  obtain ⟨hx, hb, hml, hret, hown, hts, hlk, hnm, hKn, hd1, hd2, hRc, hRs⟩ := C0
  subst hp
  obtain ⟨hsb, hsta⟩ := List.forall_mem_cons.mp hst
  obtain ⟨hsa, hst⟩ := List.forall_mem_cons.mp hsta
  have hsa : in32 a := hsa
  have hsb : in32 b := hsb
  exact lv_icmp_lt hx hb hd ht (fun hc => kt ((i32_lt hsa hsb).mp hc) l G p e R s m args below meth c H locs cells slots lsr C hL hst hls hR hlo hbc hbs) (fun hc => kf (fun z => hc ((i32_lt hsa hsb).mpr z)) l G p e R s m args below meth c H locs cells slots lsr C hL hst hls hR hlo hbc hbs)
theorem rr_icmp_ge {d : Nat} {md : AbM} {bc bs pc pc' : Nat} {ls : List (Option AbV)} {st : List AbV} {h : AbH} {K : Option AbV → AbH → Prop} {off : Int} {tgt : Nat} {a b : Int} (hd : decode (mC md) pc = .ok (.if_icmp .ge off, 3)) (hp : pc + 3 = pc') (ht : (pc : Int) + off = (tgt : Int)) (kt : b ≤ a → Vx d md bc bs tgt ls st h K) (kf : ¬ (b ≤ a) → Vx d md bc bs pc' ls st h K) : Vx d md bc bs pc ls (vI b :: vI a :: st) h K := by
  intro l G p e R s m args below meth c H locs cells slots lsr C hL hst hls hR hlo hbc hbs
  have C0 := C
  obtain ⟨hx, hb, hml, hret, hown, hts, hlk, hnm, hKn, hd1, hd2, hRc, hRs⟩ := C0
  subst hp
  obtain ⟨hsb, hsta⟩ := List.forall_mem_cons.mp hst
  obtain ⟨hsa, hst⟩ := List.forall_mem_cons.mp hsta
  have hsa : in32 a := hsa
  have hsb : in32 b := hsb
  exact lv_icmp_ge hx hb hd ht (fun hc => kt ((i32_le hsb hsa).mp hc) l G p e R s m args below meth c H locs cells slots lsr C hL hst hls hR hlo hbc hbs) (fun hc => kf (fun z => hc ((i32_le hsb hsa).mpr z)) l G p e R s m args below meth c H locs cells slots lsr C hL hst hls hR hlo hbc hbs)
theorem rr_icmp_gt {d : Nat} {md : AbM} {bc bs pc pc' : Nat} {ls : List (Option AbV)} {st : List AbV} {h : AbH} {K : Option AbV → AbH → Prop} {off : Int} {tgt : Nat} {a b : Int} (hd : decode (mC md) pc = .ok (.if_icmp .gt off, 3)) (hp : pc + 3 = pc') (ht : (pc : Int) + off = (tgt : Int)) (kt : b < a → Vx d md bc bs tgt ls st h K) (kf : ¬ (b < a) → Vx d md bc bs pc' ls st h K) : Vx d md bc bs pc ls (vI b :: vI a :: st) h K := by
  intro l G p e R s m args below meth c H locs cells slots lsr C hL hst hls hR hlo hbc hbs
  have C0 := C
  obtain ⟨hx, hb, hml, hret, hown, hts, hlk, hnm, hKn, hd1, hd2, hRc, hRs⟩ := C0
  subst hp
  obtain ⟨hsb, hsta⟩ := List.forall_mem_cons.mp hst
  obtain ⟨hsa, hst⟩ := List.forall_mem_cons.mp hsta
  have hsa : in32 a := hsa
  have hsb : in32 b := hsb
  exact lv_icmp_gt hx hb hd ht (fun hc => kt ((i32_lt hsb hsa).mp hc) l G p e R s m args below meth c H locs cells slots lsr C hL hst hls hR hlo hbc hbs) (fun hc => kf (fun z => hc ((i32_lt hsb hsa).mpr z)) l G p e R s m args below meth c H locs cells slots lsr C hL hst hls hR hlo hbc hbs)
theorem rr_icmp_le {d : Nat} {md : AbM} {bc bs pc pc' : Nat} {ls : List (Option AbV)} {st : List AbV} {h : AbH} {K : Option AbV → AbH → Prop} {off : Int} {tgt : Nat} {a b : Int} (hd : decode (mC md) pc = .ok (.if_icmp .le off, 3)) (hp : pc + 3 = pc') (ht : (pc : Int) + off = (tgt : Int)) (kt : a ≤ b → Vx d md bc bs tgt ls st h K) (kf : ¬ (a ≤ b) → Vx d md bc bs pc' ls st h K) : Vx d md bc bs pc ls (vI b :: vI a :: st) h K := by
  intro l G p e R s m args below meth c H locs cells slots lsr C hL hst hls hR hlo hbc hbs
  have C0 := C
  obtain ⟨hx, hb, hml, hret, hown, hts, hlk, hnm, hKn, hd1, hd2, hRc, hRs⟩ := C0
  subst hp
  obtain ⟨hsb, hsta⟩ := List.forall_mem_cons.mp hst
  obtain ⟨hsa, hst⟩ := List.forall_mem_cons.mp hsta
  have hsa : in32 a := hsa
  have hsb : in32 b := hsb
  exact lv_icmp_le hx hb hd ht (fun hc => kt ((i32_le hsa hsb).mp hc) l G p e R s m args below meth c H locs cells slots lsr C hL hst hls hR hlo hbc hbs) (fun hc => kf (fun z => hc ((i32_le hsa hsb).mpr z)) l G p e R s m args below meth c H locs cells slots lsr C hL hst hls hR hlo hbc hbs)
theorem rr_if_eq {d : Nat} {md : AbM} {bc bs pc pc' : Nat} {ls : List (Option AbV)} {st : List AbV} {h : AbH} {K : Option AbV → AbH → Prop} {off : Int} {tgt : Nat} {a : Int} (hd : decode (mC md) pc = .ok (.ifCond .eq off, 3)) (hp : pc + 3 = pc') (ht : (pc : Int) + off = (tgt : Int)) (kt : a = 0 → Vx d md bc bs tgt ls st h K) (kf : ¬ (a = 0) → Vx d md bc bs pc' ls st h K) : Vx d md bc bs pc ls (vI a :: st) h K := by
  intro l G p e R s m args below meth c H locs cells slots lsr C hL hst hls hR hlo hbc hbs
  have C0 := C
  obtain ⟨hx, hb, hml, hret, hown, hts, hlk, hnm, hKn, hd1, hd2, hRc, hRs⟩ := C0
  subst hp
  obtain ⟨hsa, hst⟩ := List.forall_mem_cons.mp hst
  have hsa : in32 a := hsa
  exact lv_if_eq hx hb hd ht (fun hc => kt ((i32_inj hsa i32_0).mp hc) l G p e R s m args below meth c H locs cells slots lsr C hL hst hls hR hlo hbc hbs) (fun hc => kf (fun z => hc ((i32_inj hsa i32_0).mpr z)) l G p e R s m args below meth c H locs cells slots lsr C hL hst hls hR hlo hbc hbs)
theorem rr_if_ne {d : Nat} {md : AbM} {bc bs pc pc' : Nat} {ls : List (Option AbV)} {st : List AbV} {h : AbH} {K : Option AbV → AbH → Prop} {off : Int} {tgt : Nat} {a : Int} (hd : decode (mC md) pc = .ok (.ifCond .ne off, 3)) (hp : pc + 3 = pc') (ht : (pc : Int) + off = (tgt : Int)) (kt : a ≠ 0 → Vx d md bc bs tgt ls st h K) (kf : ¬ (a ≠ 0) → Vx d md bc bs pc' ls st h K) : Vx d md bc bs pc ls (vI a :: st) h K := by
  intro l G p e R s m args below meth c H locs cells slots lsr C hL hst hls hR hlo hbc hbs
  have C0 := C
  obtain ⟨hx, hb, hml, hret, hown, hts, hlk, hnm, hKn, hd1, hd2, hRc, hRs⟩ := C0
  subst hp
  obtain ⟨hsa, hst⟩ := List.forall_mem_cons.mp hst
  have hsa : in32 a := hsa
  exact lv_if_ne hx hb hd ht (fun hc => kt ((not_congr (i32_inj hsa i32_0)).mp hc) l G p e R s m args below meth c H locs cells slots lsr C hL hst hls hR hlo hbc hbs) (fun hc => kf (fun z => z ((i32_inj hsa i32_0).mp hc)) l G p e R s m args below meth c H locs cells slots lsr C hL hst hls hR hlo hbc hbs)
theorem rr_if_lt {d : Nat} {md : AbM} {bc bs pc pc' : Nat} {ls : List (Option AbV)} {st : List AbV} {h : AbH} {K : Option AbV → AbH → Prop} {off : Int} {tgt : Nat} {a : Int} (hd : decode (mC md) pc = .ok (.ifCond .lt off, 3)) (hp : pc + 3 = pc') (ht : (pc : Int) + off = (tgt : Int)) (kt : a < 0 → Vx d md bc bs tgt ls st h K) (kf : ¬ (a < 0) → Vx d md bc bs pc' ls st h K) : Vx d md bc bs pc ls (vI a :: st) h K := by
  intro l G p e R s m args below meth c H locs cells slots lsr C hL hst hls hR hlo hbc hbs
  have C0 := C
  obtain ⟨hx, hb, hml, hret, hown, hts, hlk, hnm, hKn, hd1, hd2, hRc, hRs⟩ := C0
  subst hp
  obtain ⟨hsa, hst⟩ := List.forall_mem_cons.mp hst
  have hsa : in32 a := hsa
  exact lv_if_lt hx hb hd ht (fun hc => kt ((i32_lt hsa i32_0).mp hc) l G p e R s m args below meth c H locs cells slots lsr C hL hst hls hR hlo hbc hbs) (fun hc => kf (fun z => hc ((i32_lt hsa i32_0).mpr z)) l G p e R s m args below meth c H locs cells slots lsr C hL hst hls hR hlo hbc hbs)
theorem rr_if_ge {d : Nat} {md : AbM} {bc bs pc pc' : Nat} {ls : List (Option AbV)} {st : List AbV} {h : AbH} {K : Option AbV → AbH → Prop} {off : Int} {tgt : Nat} {a : Int} (hd : decode (mC md) pc = .ok (.ifCond .ge off, 3)) (hp : pc + 3 = pc') (ht : (pc : Int) + off = (tgt : Int)) (kt : 0 ≤ a → Vx d md bc bs tgt ls st h K) (kf : ¬ (0 ≤ a) → Vx d md bc bs pc' ls st h K) : Vx d md bc bs pc ls (vI a :: st) h K := by
  intro l G p e R s m args below meth c H locs cells slots lsr C hL hst hls hR hlo hbc hbs
  have C0 := C
  obtain ⟨hx, hb, hml, hret, hown, hts, hlk, hnm, hKn, hd1, hd2, hRc, hRs⟩ := C0
  subst hp
  obtain ⟨hsa, hst⟩ := List.forall_mem_cons.mp hst
  have hsa : in32 a := hsa
  exact lv_if_ge hx hb hd ht (fun hc => kt ((i32_le i32_0 hsa).mp hc) l G p e R s m args below meth c H locs cells slots lsr C hL hst hls hR hlo hbc hbs) (fun hc => kf (fun z => hc ((i32_le i32_0 hsa).mpr z)) l G p e R s m args below meth c H locs cells slots lsr C hL hst hls hR hlo hbc hbs)
theorem rr_if_gt {d : Nat} {md : AbM} {bc bs pc pc' : Nat} {ls : List (Option AbV)} {st : List AbV} {h : AbH} {K : Option AbV → AbH → Prop} {off : Int} {tgt : Nat} {a : Int} (hd : decode (mC md) pc = .ok (.ifCond .gt off, 3)) (hp : pc + 3 = pc') (ht : (pc : Int) + off = (tgt : Int)) (kt : 0 < a → Vx d md bc bs tgt ls st h K) (kf : ¬ (0 < a) → Vx d md bc bs pc' ls st h K) : Vx d md bc bs pc ls (vI a :: st) h K := by
  intro l G p e R s m args below meth c H locs cells slots lsr C hL hst hls hR hlo hbc hbs
  have C0 := C
  obtain ⟨hx, hb, hml, hret, hown, hts, hlk, hnm, hKn, hd1, hd2, hRc, hRs⟩ := C0
  subst hp
  obtain ⟨hsa, hst⟩ := List.forall_mem_cons.mp hst
  have hsa : in32 a := hsa
  exact lv_if_gt hx hb hd ht (fun hc => kt ((i32_lt i32_0 hsa).mp hc) l G p e R s m args below meth c H locs cells slots lsr C hL hst hls hR hlo hbc hbs) (fun hc => kf (fun z => hc ((i32_lt i32_0 hsa).mpr z)) l G p e R s m args below meth c H locs cells slots lsr C hL hst hls hR hlo hbc hbs)
theorem rr_if_le {d : Nat} {md : AbM} {bc bs pc pc' : Nat} {ls : List (Option AbV)} {st : List AbV} {h : AbH} {K : Option AbV → AbH → Prop} {off : Int} {tgt : Nat} {a : Int} (hd : decode (mC md) pc = .ok (.ifCond .le off, 3)) (hp : pc + 3 = pc') (ht : (pc : Int) + off = (tgt : Int)) (kt : a ≤ 0 → Vx d md bc bs tgt ls st h K) (kf : ¬ (a ≤ 0) → Vx d md bc bs pc' ls st h K) : Vx d md bc bs pc ls (vI a :: st) h K := by
  intro l G p e R s m args below meth c H locs cells slots lsr C hL hst hls hR hlo hbc hbs
  have C0 := C
  obtain ⟨hx, hb, hml, hret, hown, hts, hlk, hnm, hKn, hd1, hd2, hRc, hRs⟩ := C0
  subst hp
  obtain ⟨hsa, hst⟩ := List.forall_mem_cons.mp hst
  have hsa : in32 a := hsa
  exact lv_if_le hx hb hd ht (fun hc => kt ((i32_le hsa i32_0).mp hc) l G p e R s m args below meth c H locs cells slots lsr C hL hst hls hR hlo hbc hbs) (fun hc => kf (fun z => hc ((i32_le hsa i32_0).mpr z)) l G p e R s m args below meth c H locs cells slots lsr C hL hst hls hR hlo hbc hbs)
theorem rr_ifnull {d : Nat} {md : AbM} {bc bs pc pc' : Nat} {ls : List (Option AbV)} {st : List AbV} {h : AbH} {K : Option AbV → AbH → Prop} {off : Int} {tgt : Nat} {r : Option Nat} (hd : decode (mC md) pc = .ok (.ifnull off, 3)) (hp : pc + 3 = pc') (ht : (pc : Int) + off = (tgt : Int)) (kt : r = none → Vx d md bc bs tgt ls st h K) (kf : ¬ (r = none) → Vx d md bc bs pc' ls st h K) : Vx d md bc bs pc ls (vR r :: st) h K := by
  intro l G p e R s m args below meth c H locs cells slots lsr C hL hst hls hR hlo hbc hbs
  have C0 := C
  obtain ⟨hx, hb, hml, hret, hown, hts, hlk, hnm, hKn, hd1, hd2, hRc, hRs⟩ := C0
  subst hp
  obtain ⟨hsa, hs2⟩ := List.forall_mem_cons.mp hst
  cases r with
  | none => exact lv_ifnullN hx hb hd ht (kt rfl l G p e R s m args below meth c H locs cells slots lsr C hL hs2 hls hR hlo hbc hbs)
  | some a => exact lv_ifnull hx hb hd (kf (fun z => by cases z) l G p e R s m args below meth c H locs cells slots lsr C hL hs2 hls hR hlo hbc hbs)
theorem rr_ifnonnull {d : Nat} {md : AbM} {bc bs pc pc' : Nat} {ls : List (Option AbV)} {st : List AbV} {h : AbH} {K : Option AbV → AbH → Prop} {off : Int} {tgt : Nat} {r : Option Nat} (hd : decode (mC md) pc = .ok (.ifnonnull off, 3)) (hp : pc + 3 = pc') (ht : (pc : Int) + off = (tgt : Int)) (kt : r ≠ none → Vx d md bc bs tgt ls st h K) (kf : ¬ (r ≠ none) → Vx d md bc bs pc' ls st h K) : Vx d md bc bs pc ls (vR r :: st) h K := by
  intro l G p e R s m args below meth c H locs cells slots lsr C hL hst hls hR hlo hbc hbs
  have C0 := C
  obtain ⟨hx, hb, hml, hret, hown, hts, hlk, hnm, hKn, hd1, hd2, hRc, hRs⟩ := C0
  subst hp
  obtain ⟨hsa, hs2⟩ := List.forall_mem_cons.mp hst
  cases r with
  | none => exact lv_ifnonnullN hx hb hd (kf (fun z => z rfl) l G p e R s m args below meth c H locs cells slots lsr C hL hs2 hls hR hlo hbc hbs)
  | some a => exact lv_ifnonnull hx hb hd ht (kt (fun z => by cases z) l G p e R s m args below meth c H locs cells slots lsr C hL hs2 hls hR hlo hbc hbs)
theorem rr_goto {d : Nat} {md : AbM} {bc bs pc pc' : Nat} {ls : List (Option AbV)} {st : List AbV} {h : AbH} {K : Option AbV → AbH → Prop} {off : Int} (hd : decode (mC md) pc = .ok (.goto off, 3)) (ht : (pc : Int) + off = (pc' : Int)) (k : Vx d md bc bs pc' ls st h K) : Vx d md bc bs pc ls st h K := by
  intro l G p e R s m args below meth c H locs cells slots lsr C hL hst hls hR hlo hbc hbs
  have C0 := C
  obtain ⟨hx, hb, hml, hret, hown, hts, hlk, hnm, hKn, hd1, hd2, hRc, hRs⟩ := C0
  exact lv_goto hx hb hd ht (k l G p e R s m args below meth c H locs cells slots lsr C hL hst hls hR hlo hbc hbs)
def lcm (a b : Int) : Int := if a < b then -1 else if a = b then 0 else 1
theorem lcm_lt {a b : Int} : lcm a b < 0 ↔ a < b := by unfold lcm; split <;> (try split) <;> omega
theorem lcm_ge {a b : Int} : 0 ≤ lcm a b ↔ b ≤ a := by unfold lcm; split <;> (try split) <;> omega
theorem lcm_gt {a b : Int} : 0 < lcm a b ↔ b < a := by unfold lcm; split <;> (try split) <;> omega
theorem lcm_le {a b : Int} : lcm a b ≤ 0 ↔ a ≤ b := by unfold lcm; split <;> (try split) <;> omega
theorem lcm_eq {a b : Int} : lcm a b = 0 ↔ a = b := by unfold lcm; split <;> (try split) <;> omega
theorem lcm_ne {a b : Int} : lcm a b ≠ 0 ↔ a ≠ b := by unfold lcm; split <;> (try split) <;> omega
theorem lcm_ok (a b : Int) : in32 (lcm a b) := by unfold lcm in32; split <;> (try split) <;> omega
theorem lcm_cv {a b : Int} (ha : in64 a) (hb : in64 b) : lg_cmp (Int64.ofInt a) (Int64.ofInt b) = Int32.ofInt (lcm a b) := by
  unfold lg_cmp lcm
  have e1 : (Int64.ofInt a > Int64.ofInt b) ↔ b < a := by
    show Int64.ofInt b < Int64.ofInt a ↔ _
    rw [Int64.lt_iff_toInt_lt, i64_eq ha, i64_eq hb]
  have e2 : (Int64.ofInt a = Int64.ofInt b) ↔ a = b := by
    rw [← Int64.toInt_inj, i64_eq ha, i64_eq hb]
  by_cases h1 : a < b
  · rw [if_neg (fun z => by have := e1.mp z; omega), if_neg (fun z => by have := e2.mp z; omega), if_pos h1]
    rfl
  · by_cases h2 : a = b
    · rw [if_neg (fun z => by have := e1.mp z; omega), if_pos (e2.mpr h2), if_neg h1, if_pos h2]
      rfl
    · rw [if_pos (e1.mpr (by omega)), if_neg h1, if_neg h2]
      rfl
theorem rr_lcmp {d : Nat} {md : AbM} {bc bs pc pc' : Nat} {ls : List (Option AbV)} {st : List AbV} {h : AbH} {K : Option AbV → AbH → Prop} {a b : Int} (hd : decode (mC md) pc = .ok (.lcmp, 1)) (hp : pc + 1 = pc')  (k : Vx d md bc bs pc' ls (vI (lcm a b) :: st) h K) : Vx d md bc bs pc ls (vL b :: vL a :: st) h K := by
  intro l G p e R s m args below meth c H locs cells slots lsr C hL hst hls hR hlo hbc hbs
  have C0 := C
  obtain ⟨hx, hb, hml, hret, hown, hts, hlk, hnm, hKn, hd1, hd2, hRc, hRs⟩ := C0
  subst hp
  obtain ⟨hsb, hsta⟩ := List.forall_mem_cons.mp hst
  obtain ⟨hsa, hst⟩ := List.forall_mem_cons.mp hsta
  refine W.lcmp hx hb hd ?_
  rw [lcm_cv hsa hsb]
  exact k l G p e R s m args below meth c H locs cells slots lsr C hL (List.forall_mem_cons.mpr ⟨lcm_ok a b, hst⟩) hls hR hlo hbc hbs
theorem rr_tableIn {d : Nat} {md : AbM} {bc bs pc pc' : Nat} {ls : List (Option AbV)} {st : List AbV} {h : AbH} {K : Option AbV → AbH → Prop} {dflt lo hi off : Int} {offs : Array Int} {len : Nat} {a : Int} (i : Nat) (hd : decode (mC md) pc = .ok (.tableswitch dflt lo hi offs, len)) (ha : a = lo + i) (hh : lo + i ≤ hi) (ho : offs[i]? = some off) (ht : (pc : Int) + off = (pc' : Int)) (k : Vx d md bc bs pc' ls st h K) : Vx d md bc bs pc ls (vI a :: st) h K := by
  intro l G p e R s m args below meth c H locs cells slots lsr C hL hst hls hR hlo hbc hbs
  have C0 := C
  obtain ⟨hx, hb, hml, hret, hown, hts, hlk, hnm, hKn, hd1, hd2, hRc, hRs⟩ := C0
  obtain ⟨hsa, hst⟩ := List.forall_mem_cons.mp hst
  have hsa : in32 a := hsa
  have ea := i32_eq hsa
  exact lv_tableIn hx hb hd (by rw [ea]; omega) (by rw [ea]; omega) (by rw [ea, show (a - lo).toNat = i by omega]; exact ho) ht (k l G p e R s m args below meth c H locs cells slots lsr C hL hst hls hR hlo hbc hbs)
theorem rr_tableOut {d : Nat} {md : AbM} {bc bs pc pc' : Nat} {ls : List (Option AbV)} {st : List AbV} {h : AbH} {K : Option AbV → AbH → Prop} {dflt lo hi : Int} {offs : Array Int} {len : Nat} {a : Int} (hd : decode (mC md) pc = .ok (.tableswitch dflt lo hi offs, len)) (ha : a < lo ∨ hi < a) (ht : (pc : Int) + dflt = (pc' : Int)) (k : Vx d md bc bs pc' ls st h K) : Vx d md bc bs pc ls (vI a :: st) h K := by
  intro l G p e R s m args below meth c H locs cells slots lsr C hL hst hls hR hlo hbc hbs
  have C0 := C
  obtain ⟨hx, hb, hml, hret, hown, hts, hlk, hnm, hKn, hd1, hd2, hRc, hRs⟩ := C0
  obtain ⟨hsa, hst⟩ := List.forall_mem_cons.mp hst
  have hsa : in32 a := hsa
  have ea := i32_eq hsa
  exact lv_tableOut hx hb hd (by rw [ea]; exact ha) ht (k l G p e R s m args below meth c H locs cells slots lsr C hL hst hls hR hlo hbc hbs)
theorem rr_iret {d : Nat} {md : AbM} {bc bs pc : Nat} {ls : List (Option AbV)} {h : AbH} {K : Option AbV → AbH → Prop} {a : Int} (hd : decode (mC md) pc = .ok (.ireturn, 1)) (hrt : mR md = some .int) (k : K (some (vI a)) h) : Vx d md bc bs pc ls ([vI a]) h K := by
  intro l G p e R s m args below meth c H locs cells slots lsr C hL hst hls hR hlo hbc hbs
  have C0 := C
  obtain ⟨hx, hb, hml, hret, hown, hts, hlk, hnm, hKn, hd1, hd2, hRc, hRs⟩ := C0
  refine W.widen (k := mN md) (n := mS md) (by omega) (by omega) ?_
  exact W.iret hx hb (hret.trans hrt) (fun t ht hW => ⟨some (vI a), h, rfl, (fun b e => by cases e; exact hst _ List.mem_cons_self), by rw [ht]; exact hR, k⟩) hlo hd hlk
theorem rr_zret {d : Nat} {md : AbM} {bc bs pc : Nat} {ls : List (Option AbV)} {h : AbH} {K : Option AbV → AbH → Prop} {a : Int} {ty : FieldType} (hd : decode (mC md) pc = .ok (.ireturn, 1)) (hrt : mR md = some ty) (hnr : narrow ty (.int (Int32.ofInt a)) = .int (Int32.ofInt a)) (k : K (some (vI a)) h) : Vx d md bc bs pc ls ([vI a]) h K := by
  intro l G p e R s m args below meth c H locs cells slots lsr C hL hst hls hR hlo hbc hbs
  have C0 := C
  obtain ⟨hx, hb, hml, hret, hown, hts, hlk, hnm, hKn, hd1, hd2, hRc, hRs⟩ := C0
  refine W.widen (k := mN md) (n := mS md) (by omega) (by omega) ?_
  exact W.zret hx hb (hret.trans hrt) hnr (fun t ht hW => ⟨some (vI a), h, rfl, (fun b e => by cases e; exact hst _ List.mem_cons_self), by rw [ht]; exact hR, k⟩) hlo hd hlk
theorem rr_lret {d : Nat} {md : AbM} {bc bs pc : Nat} {ls : List (Option AbV)} {h : AbH} {K : Option AbV → AbH → Prop} {a : Int} (hd : decode (mC md) pc = .ok (.lreturn, 1)) (hrt : mR md = some .long) (k : K (some (vL a)) h) : Vx d md bc bs pc ls ([vL a]) h K := by
  intro l G p e R s m args below meth c H locs cells slots lsr C hL hst hls hR hlo hbc hbs
  have C0 := C
  obtain ⟨hx, hb, hml, hret, hown, hts, hlk, hnm, hKn, hd1, hd2, hRc, hRs⟩ := C0
  refine W.widen (k := mN md) (n := mS md) (by omega) (by omega) ?_
  exact W.lret hx hb (hret.trans hrt) (fun t ht hW => ⟨some (vL a), h, rfl, (fun b e => by cases e; exact hst _ List.mem_cons_self), by rw [ht]; exact hR, k⟩) hlo hd hlk
theorem rr_vret {d : Nat} {md : AbM} {bc bs pc : Nat} {ls : List (Option AbV)} {h : AbH} {K : Option AbV → AbH → Prop}  (hd : decode (mC md) pc = .ok (.return_, 1)) (hrt : mR md = none) (k : K (none) h) : Vx d md bc bs pc ls ([]) h K := by
  intro l G p e R s m args below meth c H locs cells slots lsr C hL hst hls hR hlo hbc hbs
  have C0 := C
  obtain ⟨hx, hb, hml, hret, hown, hts, hlk, hnm, hKn, hd1, hd2, hRc, hRs⟩ := C0
  refine W.widen (k := mN md) (n := mS md) (by omega) (by omega) ?_
  exact W.vret hx hb (hret.trans hrt) (fun t ht hW => ⟨none, h, rfl, (fun b e => by cases e), by rw [ht]; exact hR, k⟩) hlo hd hlk
theorem rr_aret {d : Nat} {md : AbM} {bc bs pc : Nat} {ls : List (Option AbV)} {h : AbH} {K : Option AbV → AbH → Prop} {r : Option Nat} {rt : FieldType} (hd : decode (mC md) pc = .ok (.areturn, 1)) (hrt : mR md = some rt) (hty : (∃ n, rt = .object n) ∨ ∃ t, rt = .array t) (k : K (some (vR r)) h) : Vx d md bc bs pc ls ([vR r]) h K := by
  intro l G p e R s m args below meth c H locs cells slots lsr C hL hst hls hR hlo hbc hbs
  have C0 := C
  obtain ⟨hx, hb, hml, hret, hown, hts, hlk, hnm, hKn, hd1, hd2, hRc, hRs⟩ := C0
  refine W.widen (k := mN md) (n := mS md) (by omega) (by omega) ?_
  exact W.aret hx hb (hret.trans hrt) hty (by cases r with
    | none => exact Or.inl rfl
    | some a => exact Or.inr ⟨a, rfl⟩) (fun t ht hW => ⟨some (vR r), h, rfl, (fun b e => by cases e; trivial), by rw [ht]; exact hR, k⟩) hlo hd hlk
theorem zn_b {a : Int} (h : a = 0 ∨ a = 1) : narrow .boolean (.int (Int32.ofInt a)) = .int (Int32.ofInt a) := by
  rcases h with rfl | rfl <;> rfl
