def ClF (ci : Nat) (C : String) (T : u_T) (N : Nat) (ty : Nat → FieldType) : Prop := vwCl[ci]? = some (C, T, N) ∧ (∀ w ∈ u_ws C T N, w ∈ lwW) ∧ (∀ k, k < N → parseFieldDescriptor (T k).2.2.1 = some (ty k)) ∧ ∀ a, a < N → ∀ b, b < N → a ≠ b → (T a).2.1 ≠ (T b).2.1
theorem Rl.PO {G : AbG} {h : AbH} {H : Heap} (R : Rl G h H) {a ci : Nat} {fs : List AbV} (ho : hpO h a = some (ci, fs)) : va_P (gD G) vwCl [(a, .inr (ci, fs.map ab_cv))] H := by
  intro k q hk
  have hz : k < 1 := (List.getElem?_eq_some_iff.mp hk).1
  rw [show k = 0 by omega] at hk
  cases hk
  exact (R.1 a (0, ab_eO (ci, fs)) (Or.inl ⟨_, ho, rfl⟩)).2
theorem Rl.atI {G : AbG} {h : AbH} {H : Heap} (R : Rl G h H) {a : Nat} {c : Nat × (Nat → Int)} (ho : hpI h a = some c) : (gH G).size ≤ a ∧ H[a]? = some (vp_cell (gC G 0) (c.1, .inl (fun j => Int32.ofInt (c.2 j)))) := R.1 a (1, ab_eI G c) (Or.inr (Or.inl ⟨_, ho, rfl⟩))
theorem Rl.atJ {G : AbG} {h : AbH} {H : Heap} (R : Rl G h H) {a : Nat} {c : Nat × (Nat → Int)} (ho : hpJ h a = some c) : (gH G).size ≤ a ∧ H[a]? = some (vp_cell (gC G 1) (c.1, .inr (.inl (fun j => Int64.ofInt (c.2 j))))) := R.1 a (2, ab_eJ G c) (Or.inr (Or.inr (Or.inl ⟨_, ho, rfl⟩)))
theorem Rl.atZ {G : AbG} {h : AbH} {H : Heap} (R : Rl G h H) {a : Nat} {c : Nat × (Nat → Int)} (ho : hpZ h a = some c) : (gH G).size ≤ a ∧ H[a]? = some (vp_cell (gC G 2) (c.1, .inl (fun j => Int32.ofInt (c.2 j)))) := R.1 a (3, ab_eZ G c) (Or.inr (Or.inr (Or.inr (Or.inl ⟨_, ho, rfl⟩))))
theorem Rl.atR {G : AbG} {h : AbH} {H : Heap} (R : Rl G h H) {a : Nat} {c : Nat × Nat × (Nat → Option Nat)} (ho : hpR h a = some c) : (gH G).size ≤ a ∧ H[a]? = some (vp_cell (gC G (3 + c.1)) (c.2.1, .inr (.inr (.inr (.inr c.2.2))))) := R.1 a (4, ab_eR G c) (Or.inr (Or.inr (Or.inr (Or.inr ⟨_, ho, rfl⟩))))
def wpGI (h : AbH) (q : Option Nat) (ci j : Nat) (f : Int → Prop) : Prop := ∃ (a : Nat) (fs : List AbV) (n : Int), q = some a ∧ hpO h a = some (ci, fs) ∧ fs[j]? = some (vI n) ∧ f n
def wpGL (h : AbH) (q : Option Nat) (ci j : Nat) (f : Int → Prop) : Prop := ∃ (a : Nat) (fs : List AbV) (n : Int), q = some a ∧ hpO h a = some (ci, fs) ∧ fs[j]? = some (vL n) ∧ f n
def wpGR (h : AbH) (q : Option Nat) (ci j : Nat) (f : Option Nat → Prop) : Prop := ∃ (a : Nat) (fs : List AbV) (n : Option Nat), q = some a ∧ hpO h a = some (ci, fs) ∧ fs[j]? = some (vR n) ∧ f n
def wpP (h : AbH) (q : Option Nat) (ci j : Nat) (v : AbV) (f : AbH → Prop) : Prop := ∃ (a : Nat) (fs : List AbV), q = some a ∧ hpO h a = some (ci, fs) ∧ j < fs.length ∧ f (hsO h a (ci, fs.set j v))
def wpLI (h : AbH) (q : Option Nat) (i : Int) (f : Int → Prop) : Prop := ∃ (a n : Nat) (g : Nat → Int), q = some a ∧ hpI h a = some (n, g) ∧ 0 ≤ i ∧ i < (n : Int) ∧ f (g i.toNat)
def wpLJ (h : AbH) (q : Option Nat) (i : Int) (f : Int → Prop) : Prop := ∃ (a n : Nat) (g : Nat → Int), q = some a ∧ hpJ h a = some (n, g) ∧ 0 ≤ i ∧ i < (n : Int) ∧ f (g i.toNat)
def wpLZ (h : AbH) (q : Option Nat) (i : Int) (f : Int → Prop) : Prop := ∃ (a n : Nat) (g : Nat → Int), q = some a ∧ hpZ h a = some (n, g) ∧ 0 ≤ i ∧ i < (n : Int) ∧ f (g i.toNat)
def wpLR (h : AbH) (q : Option Nat) (i : Int) (f : Option Nat → Prop) : Prop := ∃ (a k n : Nat) (g : Nat → Option Nat), q = some a ∧ hpR h a = some (k, n, g) ∧ 0 ≤ i ∧ i < (n : Int) ∧ f (g i.toNat)
def wpSI (h : AbH) (q : Option Nat) (i x : Int) (f : AbH → Prop) : Prop := ∃ (a n : Nat) (g : Nat → Int), q = some a ∧ hpI h a = some (n, g) ∧ 0 ≤ i ∧ i < (n : Int) ∧ f (hsI h a (n, va_up g i.toNat x))
def wpSJ (h : AbH) (q : Option Nat) (i x : Int) (f : AbH → Prop) : Prop := ∃ (a n : Nat) (g : Nat → Int), q = some a ∧ hpJ h a = some (n, g) ∧ 0 ≤ i ∧ i < (n : Int) ∧ f (hsJ h a (n, va_up g i.toNat x))
def wpSZ (h : AbH) (q : Option Nat) (i x : Int) (f : AbH → Prop) : Prop := ∃ (a n : Nat) (g : Nat → Int), q = some a ∧ hpZ h a = some (n, g) ∧ 0 ≤ i ∧ i < (n : Int) ∧ (x = 0 ∨ x = 1) ∧ f (hsZ h a (n, va_up g i.toNat x))
def wpSR (h : AbH) (q : Option Nat) (i : Int) (r : Option Nat) (f : AbH → Prop) : Prop := ∃ (a k n : Nat) (g : Nat → Option Nat), q = some a ∧ hpR h a = some (k, n, g) ∧ 0 ≤ i ∧ i < (n : Int) ∧ (∀ b, r = some b → ∃ fs, hpO h b = some (k, fs)) ∧ f (hsR h a (k, n, va_up g i.toNat r))
def wpNI (h : AbH) (q : Option Nat) (f : Int → Prop) : Prop := ∃ (a n : Nat) (g : Nat → Int), q = some a ∧ hpI h a = some (n, g) ∧ f (n : Int)
def wpNJ (h : AbH) (q : Option Nat) (f : Int → Prop) : Prop := ∃ (a n : Nat) (g : Nat → Int), q = some a ∧ hpJ h a = some (n, g) ∧ f (n : Int)
def wpNZ (h : AbH) (q : Option Nat) (f : Int → Prop) : Prop := ∃ (a n : Nat) (g : Nat → Int), q = some a ∧ hpZ h a = some (n, g) ∧ f (n : Int)
def wpNR (h : AbH) (q : Option Nat) (f : Int → Prop) : Prop := ∃ (a k n : Nat) (g : Nat → Option Nat), q = some a ∧ hpR h a = some (k, n, g) ∧ f (n : Int)
def wpLX (h : AbH) (q : Option Nat) (i : Int) (f : Int → Prop) : Prop := ∃ (a n : Nat) (g : Nat → Int), q = some a ∧ hpX h a = some (n, g) ∧ 0 ≤ i ∧ i < (n : Int) ∧ f (g i.toNat)
def wpNX (h : AbH) (q : Option Nat) (f : Int → Prop) : Prop := ∃ (a n : Nat) (g : Nat → Int), q = some a ∧ hpX h a = some (n, g) ∧ f (n : Int)
def kI (f : Int → AbH → Prop) : Option AbV → AbH → Prop := fun r h => ∃ n, r = some (vI n) ∧ f n h
def kL (f : Int → AbH → Prop) : Option AbV → AbH → Prop := fun r h => ∃ n, r = some (vL n) ∧ f n h
def kR (f : Option Nat → AbH → Prop) : Option AbV → AbH → Prop := fun r h => ∃ n, r = some (vR n) ∧ f n h
def kV (f : AbH → Prop) : Option AbV → AbH → Prop := fun r h => r = none ∧ f h
theorem i64_of {n : Int} (h : in32 n) : in64 n := ⟨by have := h.1; omega, by have := h.2; omega⟩
theorem i32_ofNat {n : Nat} (h : n < 2147483648) : in32 (n : Int) := ⟨by omega, by omega⟩
theorem rr_getI {d : Nat} {md : AbM} {bc bs pc pc' : Nat} {ls : List (Option AbV)} {st : List AbV} {h : AbH} {K : Option AbV → AbH → Prop} {q : Option Nat} {ci j N i : Nat} {C : String} {T : u_T} {ty : Nat → FieldType} {f : Int → Prop} (cf : ClF ci C T N ty) (hj : j < N) (hd : decode (mC md) pc = .ok (.getfield i, 3)) (hp : pc + 3 = pc') (hw : Cond.fieldLink (mY md).cls i (T j).1 (T j).2.1 (T j).2.2.1 ∈ lwW) (hh : wpGI h q ci j f) (k : ∀ n, f n → Vx d md bc bs pc' ls (vI n :: st) h K) : Vx d md bc bs pc ls (vR q :: st) h K := by
  intro l G p e R s m args below meth c H locs cells slots lsr C9 hL hst hls hR hlo hbc hbs
  have C0 := C9
  obtain ⟨hx, hb, hml, hret, hown, hts, hlk, hnm, hKn, hd1, hd2, hRc, hRs⟩ := C0
  subst hp
  obtain ⟨a, fs, n, rfl, ho, hn, hf⟩ := hh
  refine va_get (D := gD G) (ci := ci) (v := ab_cv (vI n)) (C := C) (T := T) (N := N) hx hb hts cf.2.1 hown hKn.1 (hR.PO ho) 0 rfl cf.1 j hj (hts _ hw) (fun _ z => z) (by rw [List.getElem?_map, hn]; rfl) hd ?_
  exact k n hf l G p e R s m args below meth c H locs cells slots lsr C9 hL (List.forall_mem_cons.mpr ⟨hR.2.2.1.1 a _ ho _ (List.mem_of_getElem? hn), fun w hw => hst w (List.mem_cons_of_mem _ hw)⟩) hls hR hlo hbc hbs
theorem rr_getL {d : Nat} {md : AbM} {bc bs pc pc' : Nat} {ls : List (Option AbV)} {st : List AbV} {h : AbH} {K : Option AbV → AbH → Prop} {q : Option Nat} {ci j N i : Nat} {C : String} {T : u_T} {ty : Nat → FieldType} {f : Int → Prop} (cf : ClF ci C T N ty) (hj : j < N) (hd : decode (mC md) pc = .ok (.getfield i, 3)) (hp : pc + 3 = pc') (hw : Cond.fieldLink (mY md).cls i (T j).1 (T j).2.1 (T j).2.2.1 ∈ lwW) (hh : wpGL h q ci j f) (k : ∀ n, f n → Vx d md bc bs pc' ls (vL n :: st) h K) : Vx d md bc bs pc ls (vR q :: st) h K := by
  intro l G p e R s m args below meth c H locs cells slots lsr C9 hL hst hls hR hlo hbc hbs
  have C0 := C9
  obtain ⟨hx, hb, hml, hret, hown, hts, hlk, hnm, hKn, hd1, hd2, hRc, hRs⟩ := C0
  subst hp
  obtain ⟨a, fs, n, rfl, ho, hn, hf⟩ := hh
  refine va_get (D := gD G) (ci := ci) (v := ab_cv (vL n)) (C := C) (T := T) (N := N) hx hb hts cf.2.1 hown hKn.1 (hR.PO ho) 0 rfl cf.1 j hj (hts _ hw) (fun _ z => z) (by rw [List.getElem?_map, hn]; rfl) hd ?_
  exact k n hf l G p e R s m args below meth c H locs cells slots lsr C9 hL (List.forall_mem_cons.mpr ⟨hR.2.2.1.1 a _ ho _ (List.mem_of_getElem? hn), fun w hw => hst w (List.mem_cons_of_mem _ hw)⟩) hls hR hlo hbc hbs
theorem rr_getR {d : Nat} {md : AbM} {bc bs pc pc' : Nat} {ls : List (Option AbV)} {st : List AbV} {h : AbH} {K : Option AbV → AbH → Prop} {q : Option Nat} {ci j N i : Nat} {C : String} {T : u_T} {ty : Nat → FieldType} {f : Option Nat → Prop} (cf : ClF ci C T N ty) (hj : j < N) (hd : decode (mC md) pc = .ok (.getfield i, 3)) (hp : pc + 3 = pc') (hw : Cond.fieldLink (mY md).cls i (T j).1 (T j).2.1 (T j).2.2.1 ∈ lwW) (hh : wpGR h q ci j f) (k : ∀ n, f n → Vx d md bc bs pc' ls (vR n :: st) h K) : Vx d md bc bs pc ls (vR q :: st) h K := by
  intro l G p e R s m args below meth c H locs cells slots lsr C9 hL hst hls hR hlo hbc hbs
  have C0 := C9
  obtain ⟨hx, hb, hml, hret, hown, hts, hlk, hnm, hKn, hd1, hd2, hRc, hRs⟩ := C0
  subst hp
  obtain ⟨a, fs, n, rfl, ho, hn, hf⟩ := hh
  refine va_get (D := gD G) (ci := ci) (v := ab_cv (vR n)) (C := C) (T := T) (N := N) hx hb hts cf.2.1 hown hKn.1 (hR.PO ho) 0 rfl cf.1 j hj (hts _ hw) (fun _ z => z) (by rw [List.getElem?_map, hn]; rfl) hd ?_
  exact k n hf l G p e R s m args below meth c H locs cells slots lsr C9 hL (List.forall_mem_cons.mpr ⟨hR.2.2.1.1 a _ ho _ (List.mem_of_getElem? hn), fun w hw => hst w (List.mem_cons_of_mem _ hw)⟩) hls hR hlo hbc hbs
theorem rr_put {d : Nat} {md : AbM} {bc bs pc pc' : Nat} {ls : List (Option AbV)} {st : List AbV} {h : AbH} {K : Option AbV → AbH → Prop} {q : Option Nat} {v : AbV} {ci j N i : Nat} {C : String} {T : u_T} {ty : Nat → FieldType} {fty : FieldType} {f : AbH → Prop} (cf : ClF ci C T N ty) (hj : j < N) (hd : decode (mC md) pc = .ok (.putfield i, 3)) (hp : pc + 3 = pc') (hw : Cond.fieldLink (mY md).cls i (T j).1 (T j).2.1 (T j).2.2.1 ∈ lwW) (hfin : (T j).2.2.2 = false) (hdt : parseFieldDescriptor (T j).2.2.1 = some fty) (hn : narrow fty (ab_cv v) = ab_cv v) (hfit : fits fty (ab_cv v) = true) (hh : wpP h q ci j v f) (k : ∀ h', f h' → Vx d md bc bs pc' ls st h' K) : Vx d md bc bs pc ls (v :: vR q :: st) h K := by
  intro l G p e R s m args below meth c H locs cells slots lsr C9 hL hst hls hR hlo hbc hbs
  have C0 := C9
  obtain ⟨hx, hb, hml, hret, hown, hts, hlk, hnm, hKn, hd1, hd2, hRc, hRs⟩ := C0
  subst hp
  obtain ⟨a, fs, rfl, ho, hl, hf⟩ := hh
  obtain ⟨hsv, hst⟩ := List.forall_mem_cons.mp hst
  have hst : ∀ w ∈ st, ab_ok w := fun w hw => hst w (List.mem_cons_of_mem _ hw)
  have hap := va_apart (own := (mY md).cls) hts cf.2.1 ty cf.2.2.1 cf.2.2.2 hKn.1 cf.1
  have hN := (hR.1 a (0, ab_eO (ci, fs)) (Or.inl ⟨_, ho, rfl⟩)).1
  obtain ⟨r, h1, cell, q1, q2, q3, q4⟩ := (hR.1 a (0, ab_eO (ci, fs)) (Or.inl ⟨_, ho, rfl⟩)).2
  have hr : r = (C, T, N) := Option.some.inj (h1.symm.trans cf.1)
  subst hr
  obtain ⟨hS, hfc, kC, hkC, hkind⟩ := hKn.1.1 ci _ cf.1
  obtain ⟨cf0, kf, fi, f0, hi, hsl⟩ := hS j hj
  have hlay := hts _ (cf.2.1 _ (u_in_lay hj))
  unfold u_lay at hlay
  rw [if_neg (by rw [hfin]; decide)] at hlay
  have hst0 := (u_facts hfc hkC (u_lays hts cf.2.1 hj) hi).1
  have h6 := u_store hfc hkC hkind hlay hi hdt hn hfit
  refine W.putK (v := ab_cv v) hx hb (f := f0) ⟨hown, hts _ hw, ⟨_, _, _, hi⟩, hst0⟩ (by rw [q2]; exact h6) q1 q3 (by rw [hsl]; exact k2_hasslot (q4 j hj)) rfl rfl hd fun H' e1 e2 e3 => ?_
  rw [hsl] at e1 ⊢
  have hlm : j < (fs.map ab_cv).length := by rw [List.length_map]; exact hl
  have hR' : Rl G (hsO h a (ci, fs.set j v)) H' := by
    refine hR.put (a := a) (k := 0) ab_atO (fun x hx => hR.2.1 a x (0, ab_eO (ci, fs)) hx (Or.inl ⟨_, ho, rfl⟩)) (ab_rgO hR.2.2.1 (fun w hw => ?_)) ⟨rfl, rfl, rfl⟩ hN ?_ (Nat.le_of_eq e2.symm) (fun q _ hq => e3 q hq)
    · rcases List.mem_or_eq_of_mem_set hw with z | z
      · exact hR.2.2.1.1 a _ ho w z
      · rw [z]; exact hsv
    · refine ⟨_, cf.1, t_OB.to (V := updV (vp_V (fs.map ab_cv)) j (ab_cv v)) ⟨_, e1, q2, q3, t_set q4 hap hj (ab_cv v)⟩ (fun x _ => ?_)⟩
      rw [vp_updV_set hlm, ← List.map_set]
  exact k _ hf l G p e R s m args below meth c H' _ cells slots lsr C9 hL hst hls hR' (fun x hx => by
    rcases List.mem_append.mp hx with z | z
    · exact hlo x z
    · rw [List.mem_singleton.mp z]; exact hN) hbc hbs
theorem rr_putF {d : Nat} {md : AbM} {bc bs pc pc' : Nat} {ls : List (Option AbV)} {st : List AbV} {h : AbH} {K : Option AbV → AbH → Prop} {q : Option Nat} {v : AbV} {ci j N i : Nat} {C : String} {T : u_T} {ty : Nat → FieldType} {fty : FieldType} {f : AbH → Prop} (cf : ClF ci C T N ty) (hj : j < N) (hd : decode (mC md) pc = .ok (.putfield i, 3)) (hp : pc + 3 = pc') (hw : Cond.fieldLink (mY md).cls i (T j).1 (T j).2.1 (T j).2.2.1 ∈ lwW) (hfin : (T j).2.2.2 = true) (hin2 : (mY md).name = "<init>") (hdecl : (T j).1 = (mY md).cls) (hdt : parseFieldDescriptor (T j).2.2.1 = some fty) (hn : narrow fty (ab_cv v) = ab_cv v) (hfit : fits fty (ab_cv v) = true) (hh : wpP h q ci j v f) (k : ∀ h', f h' → Vx d md bc bs pc' ls st h' K) : Vx d md bc bs pc ls (v :: vR q :: st) h K := by
  intro l G p e R s m args below meth c H locs cells slots lsr C9 hL hst hls hR hlo hbc hbs
  have C0 := C9
  obtain ⟨hx, hb, hml, hret, hown, hts, hlk, hnm, hKn, hd1, hd2, hRc, hRs⟩ := C0
  subst hp
  obtain ⟨a, fs, rfl, ho, hl, hf⟩ := hh
  obtain ⟨hsv, hst⟩ := List.forall_mem_cons.mp hst
  have hst : ∀ w ∈ st, ab_ok w := fun w hw => hst w (List.mem_cons_of_mem _ hw)
  have hap := va_apart (own := (mY md).cls) hts cf.2.1 ty cf.2.2.1 cf.2.2.2 hKn.1 cf.1
  have hN := (hR.1 a (0, ab_eO (ci, fs)) (Or.inl ⟨_, ho, rfl⟩)).1
  obtain ⟨r, h1, cell, q1, q2, q3, q4⟩ := (hR.1 a (0, ab_eO (ci, fs)) (Or.inl ⟨_, ho, rfl⟩)).2
  have hr : r = (C, T, N) := Option.some.inj (h1.symm.trans cf.1)
  subst hr
  obtain ⟨hS, hfc, kC, hkC, hkind⟩ := hKn.1.1 ci _ cf.1
  obtain ⟨cf0, kf, fi, f0, hi, hsl⟩ := hS j hj
  have hlay := hts _ (cf.2.1 _ (u_in_lay hj))
  unfold u_lay at hlay
  rw [if_pos hfin] at hlay
  have hst0 := (u_facts hfc hkC (u_lays hts cf.2.1 hj) hi).1
  have hcf : m.cls = cf0 := by
    obtain ⟨_, _, c', _, _, _, -, -, hf', -, -, -, hown2, -⟩ := Cond.laysFinal_spec hlay
    have e1 : c' = cf0 := by have := hi.symm.trans hf'; simp at this; exact this.1.symm
    rw [hdecl] at hown2
    rw [← e1]; exact Option.some.inj (hown.symm.trans hown2)
  have h6 := u_fits hfc hkC hkind (Or.inr hlay) hi hdt hn hfit
  refine W.putFinK (v := ab_cv v) hx hb hown (hts _ hw) hi hst0 hcf (hnm.trans hin2) (by rw [q2]; exact h6) q1 q3 (by rw [hsl]; exact k2_hasslot (q4 j hj)) rfl rfl hd fun H' e1 e2 e3 => ?_
  rw [hsl] at e1 ⊢
  have hlm : j < (fs.map ab_cv).length := by rw [List.length_map]; exact hl
  have hR' : Rl G (hsO h a (ci, fs.set j v)) H' := by
    refine hR.put (a := a) (k := 0) ab_atO (fun x hx => hR.2.1 a x (0, ab_eO (ci, fs)) hx (Or.inl ⟨_, ho, rfl⟩)) (ab_rgO hR.2.2.1 (fun w hw => ?_)) ⟨rfl, rfl, rfl⟩ hN ?_ (Nat.le_of_eq e2.symm) (fun q _ hq => e3 q hq)
    · rcases List.mem_or_eq_of_mem_set hw with z | z
      · exact hR.2.2.1.1 a _ ho w z
      · rw [z]; exact hsv
    · refine ⟨_, cf.1, t_OB.to (V := updV (vp_V (fs.map ab_cv)) j (ab_cv v)) ⟨_, e1, q2, q3, t_set q4 hap hj (ab_cv v)⟩ (fun x _ => ?_)⟩
      rw [vp_updV_set hlm, ← List.map_set]
  exact k _ hf l G p e R s m args below meth c H' _ cells slots lsr C9 hL hst hls hR' (fun x hx => by
    rcases List.mem_append.mp hx with z | z
    · exact hlo x z
    · rw [List.mem_singleton.mp z]; exact hN) hbc hbs
theorem rr_iald {d : Nat} {md : AbM} {bc bs pc pc' : Nat} {ls : List (Option AbV)} {st : List AbV} {h : AbH} {K : Option AbV → AbH → Prop} {q : Option Nat} {i : Int} {f : Int → Prop} (hd : decode (mC md) pc = .ok (.iaload, 1)) (hp : pc + 1 = pc') (hh : wpLI h q i f) (k : ∀ n, f n → Vx d md bc bs pc' ls (vI n :: st) h K) : Vx d md bc bs pc ls (vI i :: vR q :: st) h K := by
  intro l G p e R s m args below meth c H locs cells slots lsr C hL hst hls hR hlo hbc hbs
  have C0 := C
  obtain ⟨hx, hb, hml, hret, hown, hts, hlk, hnm, hKn, hd1, hd2, hRc, hRs⟩ := C0
  subst hp
  obtain ⟨a, n, g, rfl, ho, h0, h1, hf⟩ := hh
  obtain ⟨hsi, hst⟩ := List.forall_mem_cons.mp hst
  have hsi : in32 i := hsi
  have hvi := i32_in hsi h0 h1
  refine W.iald (v := .int (Int32.ofInt (g i.toNat))) hx hb (hR.atI ho).2 ((hKn.1.2 0 _ rfl).1 n _) (fun q => by cases q) (by show ¬ (_ ∨ (arrV _ _ _).slots.size ≤ _); rw [arrV_size]; exact hvi) (by show (arrV _ _ _).slots[_]? = _; rw [arrV_read _ _ (by rw [i32_nat hsi]; omega), i32_nat hsi]) rfl rfl hd ?_
  exact k _ hf l G p e R s m args below meth c H locs cells slots lsr C hL (List.forall_mem_cons.mpr ⟨(hR.2.2.1.2.1 a _ ho).2 _, fun w hw => hst w (List.mem_cons_of_mem _ hw)⟩) hls hR hlo hbc hbs
theorem rr_lald {d : Nat} {md : AbM} {bc bs pc pc' : Nat} {ls : List (Option AbV)} {st : List AbV} {h : AbH} {K : Option AbV → AbH → Prop} {q : Option Nat} {i : Int} {f : Int → Prop} (hd : decode (mC md) pc = .ok (.laload, 1)) (hp : pc + 1 = pc') (hh : wpLJ h q i f) (k : ∀ n, f n → Vx d md bc bs pc' ls (vL n :: st) h K) : Vx d md bc bs pc ls (vI i :: vR q :: st) h K := by
  intro l G p e R s m args below meth c H locs cells slots lsr C hL hst hls hR hlo hbc hbs
  have C0 := C
  obtain ⟨hx, hb, hml, hret, hown, hts, hlk, hnm, hKn, hd1, hd2, hRc, hRs⟩ := C0
  subst hp
  obtain ⟨a, n, g, rfl, ho, h0, h1, hf⟩ := hh
  obtain ⟨hsi, hst⟩ := List.forall_mem_cons.mp hst
  have hsi : in32 i := hsi
  have hvi := i32_in hsi h0 h1
  refine W.lald (v := .long (Int64.ofInt (g i.toNat))) hx hb (hR.atJ ho).2 ((hKn.1.2 1 _ rfl).1 n _) (fun q => by cases q) (by show ¬ (_ ∨ (arrV _ _ _).slots.size ≤ _); rw [arrV_size]; exact hvi) (by show (arrV _ _ _).slots[_]? = _; rw [arrV_read _ _ (by rw [i32_nat hsi]; omega), i32_nat hsi]) rfl rfl hd ?_
  exact k _ hf l G p e R s m args below meth c H locs cells slots lsr C hL (List.forall_mem_cons.mpr ⟨(hR.2.2.1.2.2.1 a _ ho).2 _, fun w hw => hst w (List.mem_cons_of_mem _ hw)⟩) hls hR hlo hbc hbs
theorem rr_zald {d : Nat} {md : AbM} {bc bs pc pc' : Nat} {ls : List (Option AbV)} {st : List AbV} {h : AbH} {K : Option AbV → AbH → Prop} {q : Option Nat} {i : Int} {f : Int → Prop} (hd : decode (mC md) pc = .ok (.baload, 1)) (hp : pc + 1 = pc') (hh : wpLZ h q i f) (k : ∀ n, f n → Vx d md bc bs pc' ls (vI n :: st) h K) : Vx d md bc bs pc ls (vI i :: vR q :: st) h K := by
  intro l G p e R s m args below meth c H locs cells slots lsr C hL hst hls hR hlo hbc hbs
  have C0 := C
  obtain ⟨hx, hb, hml, hret, hown, hts, hlk, hnm, hKn, hd1, hd2, hRc, hRs⟩ := C0
  subst hp
  obtain ⟨a, n, g, rfl, ho, h0, h1, hf⟩ := hh
  obtain ⟨hsi, hst⟩ := List.forall_mem_cons.mp hst
  have hsi : in32 i := hsi
  have hvi := i32_in hsi h0 h1
  refine W.zald (v := .int (Int32.ofInt (g i.toNat))) hx hb (hR.atZ ho).2 ((hKn.1.2 2 _ rfl).1 n _) (fun q => by cases q) (by show ¬ (_ ∨ (arrV _ _ _).slots.size ≤ _); rw [arrV_size]; exact hvi) (by show (arrV _ _ _).slots[_]? = _; rw [arrV_read _ _ (by rw [i32_nat hsi]; omega), i32_nat hsi]) rfl rfl hd ?_
  exact k _ hf l G p e R s m args below meth c H locs cells slots lsr C hL (List.forall_mem_cons.mpr ⟨by rcases (hR.2.2.1.2.2.2.1 a _ ho).2 i.toNat with z | z <;> (have z2 : g i.toNat = _ := z; show in32 (g i.toNat); rw [z2]; exact ⟨by decide, by decide⟩), fun w hw => hst w (List.mem_cons_of_mem _ hw)⟩) hls hR hlo hbc hbs
def ab_tc (k : Nat) : String := if k = 0 then RX1 else if k = 2 then RX3 else RX8
theorem ab_tys_r {G : AbG} {k : Nat} (hk : k = 0 ∨ k = 2 ∨ k = 7) : ∃ t0 : Nat, (ab_tys G)[t0]? = some (gC G (3 + k), FieldType.object (ab_tc k)) := by
  rcases hk with rfl | rfl | rfl
  · exact ⟨3, rfl⟩
  · exact ⟨4, rfl⟩
  · exact ⟨5, rfl⟩
theorem rr_aald {d : Nat} {md : AbM} {bc bs pc pc' : Nat} {ls : List (Option AbV)} {st : List AbV} {h : AbH} {K : Option AbV → AbH → Prop} {q : Option Nat} {i : Int} {f : Option Nat → Prop} (hd : decode (mC md) pc = .ok (.aaload, 1)) (hp : pc + 1 = pc') (hh : wpLR h q i f) (k : ∀ n, f n → Vx d md bc bs pc' ls (vR n :: st) h K) : Vx d md bc bs pc ls (vI i :: vR q :: st) h K := by
  intro l G p e R s m args below meth c H locs cells slots lsr C hL hst hls hR hlo hbc hbs
  have C0 := C
  obtain ⟨hx, hb, hml, hret, hown, hts, hlk, hnm, hKn, hd1, hd2, hRc, hRs⟩ := C0
  subst hp
  obtain ⟨a, k0, n, g, rfl, ho, h0, h1, hf⟩ := hh
  obtain ⟨hsi, hst⟩ := List.forall_mem_cons.mp hst
  have hsi : in32 i := hsi
  have hvi := i32_in hsi h0 h1
  obtain ⟨t0, ht0⟩ := ab_tys_r (G := G) (hR.2.2.1.2.2.2.2 a _ ho).2
  refine W.aald (ty := .object (ab_tc k0)) (v := va_rf (g i.toNat)) hx hb (hR.atR ho).2 ((hKn.1.2 t0 _ ht0).1 n _) rfl (fun q => by cases q) (by show ¬ (_ ∨ (arrV _ _ _).slots.size ≤ _); rw [arrV_size]; exact hvi) (by show (arrV _ _ _).slots[_]? = _; rw [arrV_read _ _ (by rw [i32_nat hsi]; show _ < n; omega), i32_nat hsi]) rfl rfl hd ?_
  exact k _ hf l G p e R s m args below meth c H locs cells slots lsr C hL (List.forall_mem_cons.mpr ⟨trivial, fun w hw => hst w (List.mem_cons_of_mem _ hw)⟩) hls hR hlo hbc hbs
theorem rr_alenI {d : Nat} {md : AbM} {bc bs pc pc' : Nat} {ls : List (Option AbV)} {st : List AbV} {h : AbH} {K : Option AbV → AbH → Prop} {q : Option Nat} {f : Int → Prop} (hd : decode (mC md) pc = .ok (.arraylength, 1)) (hp : pc + 1 = pc') (hh : wpNI h q f) (k : ∀ n, f n → Vx d md bc bs pc' ls (vI n :: st) h K) : Vx d md bc bs pc ls (vR q :: st) h K := by
  intro l G p e R s m args below meth c H locs cells slots lsr C hL hst hls hR hlo hbc hbs
  have C0 := C
  obtain ⟨hx, hb, hml, hret, hown, hts, hlk, hnm, hKn, hd1, hd2, hRc, hRs⟩ := C0
  subst hp
  obtain ⟨a, n, g, rfl, ho, hf⟩ := hh
  have hn : n < 2147483648 := (hR.2.2.1.2.1 a _ ho).1
  
  refine W.alen (n := Int32.ofInt (n : Int)) hx hb (hR.atI ho).2 ((hKn.1.2 0 _ rfl).1 n _) (by show (arrV _ _ _).slots.size.toInt32 = _; rw [arrV_size]; rfl) rfl rfl hd ?_
  exact k _ hf l G p e R s m args below meth c H locs cells slots lsr C hL (List.forall_mem_cons.mpr ⟨i32_ofNat hn, fun w hw => hst w (List.mem_cons_of_mem _ hw)⟩) hls hR hlo hbc hbs
theorem rr_alenJ {d : Nat} {md : AbM} {bc bs pc pc' : Nat} {ls : List (Option AbV)} {st : List AbV} {h : AbH} {K : Option AbV → AbH → Prop} {q : Option Nat} {f : Int → Prop} (hd : decode (mC md) pc = .ok (.arraylength, 1)) (hp : pc + 1 = pc') (hh : wpNJ h q f) (k : ∀ n, f n → Vx d md bc bs pc' ls (vI n :: st) h K) : Vx d md bc bs pc ls (vR q :: st) h K := by
  intro l G p e R s m args below meth c H locs cells slots lsr C hL hst hls hR hlo hbc hbs
  have C0 := C
  obtain ⟨hx, hb, hml, hret, hown, hts, hlk, hnm, hKn, hd1, hd2, hRc, hRs⟩ := C0
  subst hp
  obtain ⟨a, n, g, rfl, ho, hf⟩ := hh
  have hn : n < 2147483648 := (hR.2.2.1.2.2.1 a _ ho).1
  
  refine W.alen (n := Int32.ofInt (n : Int)) hx hb (hR.atJ ho).2 ((hKn.1.2 1 _ rfl).1 n _) (by show (arrV _ _ _).slots.size.toInt32 = _; rw [arrV_size]; rfl) rfl rfl hd ?_
  exact k _ hf l G p e R s m args below meth c H locs cells slots lsr C hL (List.forall_mem_cons.mpr ⟨i32_ofNat hn, fun w hw => hst w (List.mem_cons_of_mem _ hw)⟩) hls hR hlo hbc hbs
theorem rr_alenZ {d : Nat} {md : AbM} {bc bs pc pc' : Nat} {ls : List (Option AbV)} {st : List AbV} {h : AbH} {K : Option AbV → AbH → Prop} {q : Option Nat} {f : Int → Prop} (hd : decode (mC md) pc = .ok (.arraylength, 1)) (hp : pc + 1 = pc') (hh : wpNZ h q f) (k : ∀ n, f n → Vx d md bc bs pc' ls (vI n :: st) h K) : Vx d md bc bs pc ls (vR q :: st) h K := by
  intro l G p e R s m args below meth c H locs cells slots lsr C hL hst hls hR hlo hbc hbs
  have C0 := C
  obtain ⟨hx, hb, hml, hret, hown, hts, hlk, hnm, hKn, hd1, hd2, hRc, hRs⟩ := C0
  subst hp
  obtain ⟨a, n, g, rfl, ho, hf⟩ := hh
  have hn : n < 2147483648 := (hR.2.2.1.2.2.2.1 a _ ho).1
  
  refine W.alen (n := Int32.ofInt (n : Int)) hx hb (hR.atZ ho).2 ((hKn.1.2 2 _ rfl).1 n _) (by show (arrV _ _ _).slots.size.toInt32 = _; rw [arrV_size]; rfl) rfl rfl hd ?_
  exact k _ hf l G p e R s m args below meth c H locs cells slots lsr C hL (List.forall_mem_cons.mpr ⟨i32_ofNat hn, fun w hw => hst w (List.mem_cons_of_mem _ hw)⟩) hls hR hlo hbc hbs
theorem rr_alenR {d : Nat} {md : AbM} {bc bs pc pc' : Nat} {ls : List (Option AbV)} {st : List AbV} {h : AbH} {K : Option AbV → AbH → Prop} {q : Option Nat} {f : Int → Prop} (hd : decode (mC md) pc = .ok (.arraylength, 1)) (hp : pc + 1 = pc') (hh : wpNR h q f) (k : ∀ n, f n → Vx d md bc bs pc' ls (vI n :: st) h K) : Vx d md bc bs pc ls (vR q :: st) h K := by
  intro l G p e R s m args below meth c H locs cells slots lsr C hL hst hls hR hlo hbc hbs
  have C0 := C
  obtain ⟨hx, hb, hml, hret, hown, hts, hlk, hnm, hKn, hd1, hd2, hRc, hRs⟩ := C0
  subst hp
  obtain ⟨a, k0, n, g, rfl, ho, hf⟩ := hh
  have hn : n < 2147483648 := (hR.2.2.1.2.2.2.2 a _ ho).1
  obtain ⟨t0, ht0⟩ := ab_tys_r (G := G) (hR.2.2.1.2.2.2.2 a _ ho).2
  refine W.alen (n := Int32.ofInt (n : Int)) hx hb (hR.atR ho).2 ((hKn.1.2 t0 _ ht0).1 n _) (by show (arrV _ _ _).slots.size.toInt32 = _; rw [arrV_size]; rfl) rfl rfl hd ?_
  exact k _ hf l G p e R s m args below meth c H locs cells slots lsr C hL (List.forall_mem_cons.mpr ⟨i32_ofNat hn, fun w hw => hst w (List.mem_cons_of_mem _ hw)⟩) hls hR hlo hbc hbs
abbrev ab_z01 (x : Int) : Prop := x = 0 ∨ x = 1
theorem rr_iast {d : Nat} {md : AbM} {bc bs pc pc' : Nat} {ls : List (Option AbV)} {st : List AbV} {h : AbH} {K : Option AbV → AbH → Prop} {q : Option Nat} {i x : Int} {f : AbH → Prop} (hd : decode (mC md) pc = .ok (.iastore, 1)) (hp : pc + 1 = pc') (hh : wpSI h q i x f) (k : ∀ h', f h' → Vx d md bc bs pc' ls st h' K) : Vx d md bc bs pc ls (vI x :: vI i :: vR q :: st) h K := by
  intro l G p e R s m args below meth c H locs cells slots lsr C hL hst hls hR hlo hbc hbs
  have C0 := C
  obtain ⟨hx, hb, hml, hret, hown, hts, hlk, hnm, hKn, hd1, hd2, hRc, hRs⟩ := C0
  subst hp
  obtain ⟨a, n, g, rfl, ho, h0, h1, hf⟩ := hh
  obtain ⟨hsx, hst⟩ := List.forall_mem_cons.mp hst
  obtain ⟨hsi, hst⟩ := List.forall_mem_cons.mp hst
  have hst : ∀ w ∈ st, ab_ok w := fun w hw => hst w (List.mem_cons_of_mem _ hw)
  have hsi : in32 i := hsi
  have hvi := i32_in hsi h0 h1
  have hN := (hR.atI ho).1
  refine W.iast hx hb (hR.atI ho).2 ((hKn.1.2 0 _ rfl).1 n _) (fun q => by cases q) (by show ¬ (_ ∨ (arrV _ _ _).slots.size ≤ _); rw [arrV_size]; exact hvi) rfl rfl hd fun H' e1 e2 e3 => ?_
  rw [i32_nat hsi] at e1 ⊢
  have hR' : Rl G (hsI h a (n, va_up g i.toNat x)) H' := by
    refine hR.put (a := a) (k := 1) ab_atI (fun y hy => hR.2.1 a y (1, ab_eI G (n, g)) hy (Or.inr (Or.inl ⟨_, ho, rfl⟩))) (ab_rgI hR.2.2.1 ⟨(hR.2.2.1.2.1 a _ ho).1, fun j => ?_⟩) ⟨rfl, rfl, rfl⟩ hN ?_ (Nat.le_of_eq e2.symm) (fun q _ hq => e3 q hq)
    · show in32 (va_up g i.toNat x j)
      unfold va_up
      split
      · exact hsx
      · exact (hR.2.2.1.2.1 a _ ho).2 j
    · show H'[a]? = some (vp_cell _ _)
      rw [e1]
      rw [vp_cell_i, vp_cell_i, arrV_store]
      congr 2
      funext y
      show updV _ _ _ y = Value.int (Int32.ofInt (va_up g i.toNat x y))
      unfold updV va_up
      split <;> rfl
  exact k _ hf l G p e R s m args below meth c H' _ cells slots lsr C hL hst hls hR' (fun x hx => by
    rcases List.mem_append.mp hx with z | z
    · exact hlo x z
    · rw [List.mem_singleton.mp z]; exact hN) hbc hbs
theorem rr_last {d : Nat} {md : AbM} {bc bs pc pc' : Nat} {ls : List (Option AbV)} {st : List AbV} {h : AbH} {K : Option AbV → AbH → Prop} {q : Option Nat} {i x : Int} {f : AbH → Prop} (hd : decode (mC md) pc = .ok (.lastore, 1)) (hp : pc + 1 = pc') (hh : wpSJ h q i x f) (k : ∀ h', f h' → Vx d md bc bs pc' ls st h' K) : Vx d md bc bs pc ls (vL x :: vI i :: vR q :: st) h K := by
  intro l G p e R s m args below meth c H locs cells slots lsr C hL hst hls hR hlo hbc hbs
  have C0 := C
  obtain ⟨hx, hb, hml, hret, hown, hts, hlk, hnm, hKn, hd1, hd2, hRc, hRs⟩ := C0
  subst hp
  obtain ⟨a, n, g, rfl, ho, h0, h1, hf⟩ := hh
  obtain ⟨hsx, hst⟩ := List.forall_mem_cons.mp hst
  obtain ⟨hsi, hst⟩ := List.forall_mem_cons.mp hst
  have hst : ∀ w ∈ st, ab_ok w := fun w hw => hst w (List.mem_cons_of_mem _ hw)
  have hsi : in32 i := hsi
  have hvi := i32_in hsi h0 h1
  have hN := (hR.atJ ho).1
  refine W.last hx hb (hR.atJ ho).2 ((hKn.1.2 1 _ rfl).1 n _) (fun q => by cases q) (by show ¬ (_ ∨ (arrV _ _ _).slots.size ≤ _); rw [arrV_size]; exact hvi) rfl rfl hd fun H' e1 e2 e3 => ?_
  rw [i32_nat hsi] at e1 ⊢
  have hR' : Rl G (hsJ h a (n, va_up g i.toNat x)) H' := by
    refine hR.put (a := a) (k := 2) ab_atJ (fun y hy => hR.2.1 a y (2, ab_eJ G (n, g)) hy (Or.inr (Or.inr (Or.inl ⟨_, ho, rfl⟩)))) (ab_rgJ hR.2.2.1 ⟨(hR.2.2.1.2.2.1 a _ ho).1, fun j => ?_⟩) ⟨rfl, rfl, rfl⟩ hN ?_ (Nat.le_of_eq e2.symm) (fun q _ hq => e3 q hq)
    · show in64 (va_up g i.toNat x j)
      unfold va_up
      split
      · exact hsx
      · exact (hR.2.2.1.2.2.1 a _ ho).2 j
    · show H'[a]? = some (vp_cell _ _)
      rw [e1]
      rw [vp_cell_l, vp_cell_l, arrV_store]
      congr 2
      funext y
      show updV _ _ _ y = Value.long (Int64.ofInt (va_up g i.toNat x y))
      unfold updV va_up
      split <;> rfl
  exact k _ hf l G p e R s m args below meth c H' _ cells slots lsr C hL hst hls hR' (fun x hx => by
    rcases List.mem_append.mp hx with z | z
    · exact hlo x z
    · rw [List.mem_singleton.mp z]; exact hN) hbc hbs
theorem rr_zast {d : Nat} {md : AbM} {bc bs pc pc' : Nat} {ls : List (Option AbV)} {st : List AbV} {h : AbH} {K : Option AbV → AbH → Prop} {q : Option Nat} {i x : Int} {f : AbH → Prop} (hd : decode (mC md) pc = .ok (.bastore, 1)) (hp : pc + 1 = pc') (hh : wpSZ h q i x f) (k : ∀ h', f h' → Vx d md bc bs pc' ls st h' K) : Vx d md bc bs pc ls (vI x :: vI i :: vR q :: st) h K := by
  intro l G p e R s m args below meth c H locs cells slots lsr C hL hst hls hR hlo hbc hbs
  have C0 := C
  obtain ⟨hx, hb, hml, hret, hown, hts, hlk, hnm, hKn, hd1, hd2, hRc, hRs⟩ := C0
  subst hp
  obtain ⟨a, n, g, rfl, ho, h0, h1, hx01, hf⟩ := hh
  obtain ⟨hsx, hst⟩ := List.forall_mem_cons.mp hst
  obtain ⟨hsi, hst⟩ := List.forall_mem_cons.mp hst
  have hst : ∀ w ∈ st, ab_ok w := fun w hw => hst w (List.mem_cons_of_mem _ hw)
  have hsi : in32 i := hsi
  have hvi := i32_in hsi h0 h1
  have hN := (hR.atZ ho).1
  refine W.zast hx hb (hR.atZ ho).2 ((hKn.1.2 2 _ rfl).1 n _) (fun q => by cases q) (by show ¬ (_ ∨ (arrV _ _ _).slots.size ≤ _); rw [arrV_size]; exact hvi) rfl rfl hd fun H' e1 e2 e3 => ?_
  rw [i32_nat hsi] at e1 ⊢
  have hR' : Rl G (hsZ h a (n, va_up g i.toNat x)) H' := by
    refine hR.put (a := a) (k := 3) ab_atZ (fun y hy => hR.2.1 a y (3, ab_eZ G (n, g)) hy (Or.inr (Or.inr (Or.inr (Or.inl ⟨_, ho, rfl⟩))))) (ab_rgZ hR.2.2.1 ⟨(hR.2.2.1.2.2.2.1 a _ ho).1, fun j => ?_⟩) ⟨rfl, rfl, rfl⟩ hN ?_ (Nat.le_of_eq e2.symm) (fun q _ hq => e3 q hq)
    · show ab_z01 (va_up g i.toNat x j)
      unfold va_up
      split
      · exact hx01
      · exact (hR.2.2.1.2.2.2.1 a _ ho).2 j
    · show H'[a]? = some (vp_cell _ _)
      rw [e1]
      rw [zn_b hx01]
      rw [vp_cell_i, vp_cell_i, arrV_store]
      congr 2
      funext y
      show updV _ _ _ y = Value.int (Int32.ofInt (va_up g i.toNat x y))
      unfold updV va_up
      split <;> rfl
  exact k _ hf l G p e R s m args below meth c H' _ cells slots lsr C hL hst hls hR' (fun x hx => by
    rcases List.mem_append.mp hx with z | z
    · exact hlo x z
    · rw [List.mem_singleton.mp z]; exact hN) hbc hbs
theorem rr_aast {d : Nat} {md : AbM} {bc bs pc pc' : Nat} {ls : List (Option AbV)} {st : List AbV} {h : AbH} {K : Option AbV → AbH → Prop} {q : Option Nat} {i : Int} {r : Option Nat} {f : AbH → Prop} (hd : decode (mC md) pc = .ok (.aastore, 1)) (hp : pc + 1 = pc') (hh : wpSR h q i r f) (k : ∀ h', f h' → Vx d md bc bs pc' ls st h' K) : Vx d md bc bs pc ls (vR r :: vI i :: vR q :: st) h K := by
  intro l G p e R s m args below meth c H locs cells slots lsr C hL hst hls hR hlo hbc hbs
  have C0 := C
  obtain ⟨hx, hb, hml, hret, hown, hts, hlk, hnm, hKn, hd1, hd2, hRc, hRs⟩ := C0
  subst hp
  obtain ⟨a, k0, n, g, rfl, ho, h0, h1, hr0, hf⟩ := hh
  obtain ⟨hsx, hst⟩ := List.forall_mem_cons.mp hst
  obtain ⟨hsi, hst⟩ := List.forall_mem_cons.mp hst
  have hst : ∀ w ∈ st, ab_ok w := fun w hw => hst w (List.mem_cons_of_mem _ hw)
  have hsi : in32 i := hsi
  have hvi := i32_in hsi h0 h1
  have hN := (hR.atR ho).1
  have hk0 := (hR.2.2.1.2.2.2.2 a _ ho).2
  obtain ⟨t0, ht0⟩ := ab_tys_r (G := G) hk0
  have fin : ∀ H' : Heap, H'[a]? = some ((vp_cell (gC G (3 + k0)) (n, .inr (.inr (.inr (.inr g))))).setSlot (Int32.ofInt i).toNatClampNeg (va_rf r)) → H'.size = H.size → (∀ q, q ≠ a → H'[q]? = H[q]?) → W p l e R s m args below meth c H' (locs ++ [⟨a, (Int32.ofInt i).toNatClampNeg⟩]) cells slots (MQ below (QcV G K) args s (mN md) (mS md) (fun q => (gH G).size ≤ q)) (F0 m (pc + 1) lsr (st.map ab_cv)) := by
    intro H' e1 e2 e3
    rw [i32_nat hsi] at e1 ⊢
    have hR' : Rl G (hsR h a (k0, n, va_up g i.toNat r)) H' := by
      refine hR.put (a := a) (k := 4) ab_atR (fun y hy => hR.2.1 a y (4, ab_eR G (k0, n, g)) hy (Or.inr (Or.inr (Or.inr (Or.inr ⟨_, ho, rfl⟩))))) (ab_rgR hR.2.2.1 (hR.2.2.1.2.2.2.2 a (k0, n, g) ho)) ⟨rfl, rfl, rfl⟩ hN ?_ (Nat.le_of_eq e2.symm) (fun q _ hq => e3 q hq)
      show H'[a]? = some (vp_cell _ _)
      rw [e1, vp_cell_q, vp_cell_q, arrV_store]
      congr 2
      funext y
      show updV _ _ _ y = va_rf (va_up g i.toNat r y)
      unfold updV va_up
      split <;> rfl
    exact k _ hf l G p e R s m args below meth c H' _ cells slots lsr C hL hst hls hR' (fun x hx => by
      rcases List.mem_append.mp hx with z | z
      · exact hlo x z
      · rw [List.mem_singleton.mp z]; exact hN) hbc hbs
  cases r with
  | none =>
    exact va_WaastN (C := ab_tc k0) hx hb (hR.atR ho).2 ((hKn.1.2 t0 _ ht0).1 n _) (fun q => by cases q) (by show ¬ (_ ∨ (arrV _ _ _).slots.size ≤ _); rw [arrV_size]; exact hvi) rfl rfl hd fin
  | some b =>
    obtain ⟨fs, hb0⟩ := hr0 b rfl
    obtain ⟨r', hr', cellV, g1, g2, g3, -⟩ := (hR.1 b (0, ab_eO (k0, fs)) (Or.inl ⟨_, hb0, rfl⟩)).2
    have hcl : vwCl[k0]? = some r' ∧ r'.1 = ab_tc k0 := by
      refine ⟨hr', ?_⟩
      rcases hk0 with z | z | z <;> (dsimp only at z; subst z; cases hr'; rfl)
    have hcls := (hKn.1.1 k0 r' hcl.1).2
    rw [hcl.2] at hcls
    obtain ⟨kA, comp, k1, k2, k3, -⟩ := (hKn.1.2 t0 _ ht0).2
    have hcomp : comp = (gD G).1 k0 := Option.some.inj (k3.symm.trans hcls.1)
    subst hcomp
    obtain ⟨kC, hkC, -⟩ := hcls.2
    have hlt : (Int32.ofInt i).toNatClampNeg < n := Nat.not_le.mp fun q => hvi (Or.inr q)
    exact W.aast hx hb (hR.atR ho).2 (fun q h => by cases h) (fun h => by cases h) k1 k2 rfl hkC ⟨fun q => hvi (Or.inl q), by show _ < (arrV _ _ _).slots.size; rw [arrV_size]; exact hlt⟩ g1 (fun q h => by rw [g3] at h; cases h) (by rw [g2]; exact hkC) (by rw [g2]; exact va_assign hcls) rfl rfl hd fin
theorem rr_xald {d : Nat} {md : AbM} {bc bs pc pc' : Nat} {ls : List (Option AbV)} {st : List AbV} {h : AbH} {K : Option AbV → AbH → Prop} {q : Option Nat} {i : Int} {f : Int → Prop} (hd : decode (mC md) pc = .ok (.iaload, 1)) (hp : pc + 1 = pc') (hh : wpLX h q i f) (k : ∀ n, f n → Vx d md bc bs pc' ls (vI n :: st) h K) : Vx d md bc bs pc ls (vI i :: vR q :: st) h K := by
  intro l G p e R s m args below meth c H locs cells slots lsr C hL hst hls hR hlo hbc hbs
  have C0 := C
  obtain ⟨hx, hb, hml, hret, hown, hts, hlk, hnm, hKn, hd1, hd2, hRc, hRs⟩ := C0
  subst hp
  obtain ⟨a, n, g, rfl, ho, h0, h1, hf⟩ := hh
  obtain ⟨hsi, hst⟩ := List.forall_mem_cons.mp hst
  have hsi : in32 i := hsi
  have hvi := i32_in hsi h0 h1
  rw [hR.2.2.2.1.1] at ho
  obtain ⟨x1, x2, x3, scr, y1, y2, y3, y4, y5⟩ := hKn.2.2.2.2.2.2.2 a _ ho
  refine W.iald (v := .int (Int32.ofInt (g i.toNat))) hx hb ((hR.2.2.2.2.2 a x1).trans y1) y2 y3 (by rw [y4]; exact hvi) (by rw [i32_nat hsi]; exact y5 _ (by show _ < n; omega)) rfl rfl hd ?_
  exact k _ hf l G p e R s m args below meth c H locs cells slots lsr C hL (List.forall_mem_cons.mpr ⟨x3 _, fun w hw => hst w (List.mem_cons_of_mem _ hw)⟩) hls hR hlo hbc hbs
theorem rr_alenX {d : Nat} {md : AbM} {bc bs pc pc' : Nat} {ls : List (Option AbV)} {st : List AbV} {h : AbH} {K : Option AbV → AbH → Prop} {q : Option Nat} {f : Int → Prop} (hd : decode (mC md) pc = .ok (.arraylength, 1)) (hp : pc + 1 = pc') (hh : wpNX h q f) (k : ∀ n, f n → Vx d md bc bs pc' ls (vI n :: st) h K) : Vx d md bc bs pc ls (vR q :: st) h K := by
  intro l G p e R s m args below meth c H locs cells slots lsr C hL hst hls hR hlo hbc hbs
  have C0 := C
  obtain ⟨hx, hb, hml, hret, hown, hts, hlk, hnm, hKn, hd1, hd2, hRc, hRs⟩ := C0
  subst hp
  obtain ⟨a, n, g, rfl, ho, hf⟩ := hh
  rw [hR.2.2.2.1.1] at ho
  obtain ⟨x1, x2, x3, scr, y1, y2, y3, y4, y5⟩ := hKn.2.2.2.2.2.2.2 a _ ho
  refine W.alen (n := Int32.ofInt (n : Int)) hx hb ((hR.2.2.2.2.2 a x1).trans y1) y2 (by rw [y4]; rfl) rfl rfl hd ?_
  exact k _ hf l G p e R s m args below meth c H locs cells slots lsr C hL (List.forall_mem_cons.mpr ⟨i32_ofNat x2, fun w hw => hst w (List.mem_cons_of_mem _ hw)⟩) hls hR hlo hbc hbs
