/-! values without wrap-around, the heap as maps, and what they say of the machine's -/
abbrev AbV : Type := Int ⊕ (Int ⊕ Option Nat)
abbrev vI (n : Int) : AbV := Sum.inl n
abbrev vL (n : Int) : AbV := Sum.inr (Sum.inl n)
abbrev vR (r : Option Nat) : AbV := Sum.inr (Sum.inr r)
def ab_cv : AbV → Value
  | .inl n => .int (Int32.ofInt n)
  | .inr (.inl n) => .long (Int64.ofInt n)
  | .inr (.inr r) => va_rf r
def in32 (n : Int) : Prop := -2147483648 ≤ n ∧ n ≤ 2147483647
def in64 (n : Int) : Prop := -9223372036854775808 ≤ n ∧ n ≤ 9223372036854775807
def ab_ok : AbV → Prop
  | .inl n => in32 n
  | .inr (.inl n) => in64 n
  | .inr (.inr _) => True
abbrev AbO : Type := Nat → Option (Nat × List AbV)
abbrev AbA : Type := Nat → Option (Nat × (Nat → Int))
abbrev AbR : Type := Nat → Option (Nat × Nat × (Nat → Option Nat))
abbrev AbH : Type := AbO × AbA × AbA × AbA × AbR × AbA × (Nat → Nat → Prop) × (Nat → Nat → Prop)
def hpO (h : AbH) : AbO := h.1
def hpI (h : AbH) : AbA := h.2.1
def hpJ (h : AbH) : AbA := h.2.2.1
def hpZ (h : AbH) : AbA := h.2.2.2.1
def hpR (h : AbH) : AbR := h.2.2.2.2.1
def hpX (h : AbH) : AbA := h.2.2.2.2.2.1
def hpS (h : AbH) : Nat → Nat → Prop := h.2.2.2.2.2.2.1
def hpB (h : AbH) : Nat → Nat → Prop := h.2.2.2.2.2.2.2
def hsO (h : AbH) (q : Nat) (c : Nat × List AbV) : AbH := (va_up h.1 q (some c), h.2)
def hsI (h : AbH) (q : Nat) (c : Nat × (Nat → Int)) : AbH := (h.1, va_up h.2.1 q (some c), h.2.2)
def hsJ (h : AbH) (q : Nat) (c : Nat × (Nat → Int)) : AbH := (h.1, h.2.1, va_up h.2.2.1 q (some c), h.2.2.2)
def hsZ (h : AbH) (q : Nat) (c : Nat × (Nat → Int)) : AbH := (h.1, h.2.1, h.2.2.1, va_up h.2.2.2.1 q (some c), h.2.2.2.2)
def hsR (h : AbH) (q : Nat) (c : Nat × Nat × (Nat → Option Nat)) : AbH := (h.1, h.2.1, h.2.2.1, h.2.2.2.1, va_up h.2.2.2.2.1 q (some c), h.2.2.2.2.2)
abbrev AbG : Type := va_G × (Nat → ClassId) × Heap × (Nat → Nat) × (Nat → Nat) × AbA
def gD (G : AbG) : va_G := G.1
def gC (G : AbG) : Nat → ClassId := G.2.1
def gH (G : AbG) : Heap := G.2.2.1
def gK (G : AbG) : Nat → Nat := G.2.2.2.1
def gV (G : AbG) : Nat → Nat := G.2.2.2.2.1
def gM (G : AbG) : AbA := G.2.2.2.2.2
def ab_eO (c : Nat × List AbV) : va_E := .inr (c.1, c.2.map ab_cv)
def ab_eI (G : AbG) (c : Nat × (Nat → Int)) : va_E := .inl (gC G 0, c.1, .inl (fun j => Int32.ofInt (c.2 j)))
def ab_eJ (G : AbG) (c : Nat × (Nat → Int)) : va_E := .inl (gC G 1, c.1, .inr (.inl (fun j => Int64.ofInt (c.2 j))))
def ab_eZ (G : AbG) (c : Nat × (Nat → Int)) : va_E := .inl (gC G 2, c.1, .inl (fun j => Int32.ofInt (c.2 j)))
def ab_eR (G : AbG) (c : Nat × Nat × (Nat → Option Nat)) : va_E := .inl (gC G (3 + c.1), c.2.1, .inr (.inr (.inr (.inr c.2.2))))
def ab_at (G : AbG) (h : AbH) (q : Nat) (x : Nat × va_E) : Prop :=
  (∃ c, hpO h q = some c ∧ x = (0, ab_eO c)) ∨ (∃ c, hpI h q = some c ∧ x = (1, ab_eI G c)) ∨ (∃ c, hpJ h q = some c ∧ x = (2, ab_eJ G c)) ∨ (∃ c, hpZ h q = some c ∧ x = (3, ab_eZ G c)) ∨ (∃ c, hpR h q = some c ∧ x = (4, ab_eR G c))
def ab_rg (h : AbH) : Prop :=
  (∀ (q : Nat) (c : Nat × List AbV), hpO h q = some c → ∀ v ∈ c.2, ab_ok v) ∧ (∀ (q : Nat) (c : Nat × (Nat → Int)), hpI h q = some c → c.1 < 2147483648 ∧ ∀ j, in32 (c.2 j)) ∧ (∀ (q : Nat) (c : Nat × (Nat → Int)), hpJ h q = some c → c.1 < 2147483648 ∧ ∀ j, in64 (c.2 j)) ∧ (∀ (q : Nat) (c : Nat × (Nat → Int)), hpZ h q = some c → c.1 < 2147483648 ∧ ∀ j, c.2 j = 0 ∨ c.2 j = 1) ∧ (∀ (q : Nat) (c : Nat × Nat × (Nat → Option Nat)), hpR h q = some c → c.2.1 < 2147483648 ∧ (c.1 = 0 ∨ c.1 = 2 ∨ c.1 = 7))
def Rl (G : AbG) (h : AbH) (H : Heap) : Prop :=
  (∀ (q : Nat) (x : Nat × va_E), ab_at G h q x → (gH G).size ≤ q ∧ va_at (gD G) vwCl (q, x.2) H) ∧ (∀ (q : Nat) (x y : Nat × va_E), ab_at G h q x → ab_at G h q y → x.1 = y.1) ∧ ab_rg h ∧
  (hpX h = gM G ∧ hpS h = (fun a k => k < 4 ∧ a = gK G k) ∧ hpB h = (fun a k => k < 4 ∧ a = gV G k)) ∧ (gH G).size ≤ H.size ∧ ∀ q : Nat, q < (gH G).size → H[q]? = (gH G)[q]?
theorem Rl.put {G : AbG} {h h' : AbH} {H H' : Heap} {a k : Nat} {e0 : va_E} (R : Rl G h H) (hat : ∀ (q : Nat) (x : Nat × va_E), ab_at G h' q x → (q = a ∧ x = (k, e0)) ∨ (ab_at G h q x ∧ (q ≠ a ∨ x.1 ≠ k))) (hold : ∀ x : Nat × va_E, ab_at G h a x → x.1 = k)
    (hrg : ab_rg h') (hst : hpX h' = hpX h ∧ hpS h' = hpS h ∧ hpB h' = hpB h) (ha : (gH G).size ≤ a) (hnew : va_at (gD G) vwCl (a, e0) H') (hsz : H.size ≤ H'.size) (hoth : ∀ q : Nat, q < H.size → q ≠ a → H'[q]? = H[q]?) : Rl G h' H' := by
  obtain ⟨r1, r2, r3, r4, r5, r6⟩ := R
  have hne : ∀ (q : Nat) (x : Nat × va_E), ab_at G h q x → (q ≠ a ∨ x.1 ≠ k) → q ≠ a := by
    intro q x hx ho he
    rcases ho with ho | ho
    · exact ho he
    · subst he
      exact ho (hold x hx)
  refine ⟨fun q x hx => ?_, fun q x y hx hy => ?_, hrg, ⟨hst.1.trans r4.1, hst.2.1.trans r4.2.1, hst.2.2.trans r4.2.2⟩, Nat.le_trans r5 hsz, fun q hq => ?_⟩
  · rcases hat q x hx with ⟨e1, e2⟩ | ⟨e1, e2⟩
    · subst e1; subst e2
      exact ⟨ha, hnew⟩
    · obtain ⟨g1, g2⟩ := r1 q x e1
      exact ⟨g1, g2.kept (hoth q g2.lt (hne q x e1 e2))⟩
  · rcases hat q x hx with ⟨e1, e2⟩ | ⟨e1, e2⟩ <;> rcases hat q y hy with ⟨f1, f2⟩ | ⟨f1, f2⟩
    · rw [e2, f2]
    · exact absurd e1 (hne q y f1 f2)
    · exact absurd f1 (hne q x e1 e2)
    · exact r2 q x y e1 f1
  · rw [hoth q (by omega) (by omega)]
    exact r6 q hq
theorem ab_upS {α : Type} {f : Nat → Option α} {a q : Nat} {c x : α} (h : va_up f a (some c) q = some x) : (q = a ∧ x = c) ∨ (q ≠ a ∧ f q = some x) := by
  unfold va_up at h
  split at h
  next e => exact Or.inl ⟨e, (Option.some.inj h).symm⟩
  next e => exact Or.inr ⟨e, h⟩
theorem ab_atO {G : AbG} {h : AbH} {a : Nat} {c : Nat × List AbV} : ∀ (q : Nat) (x : Nat × va_E), ab_at G (hsO h a c) q x → (q = a ∧ x = (0, ab_eO c)) ∨ (ab_at G h q x ∧ (q ≠ a ∨ x.1 ≠ 0)) := by
  intro q x hx
  rcases hx with ⟨d, h1, rfl⟩ | ⟨d, h1, rfl⟩ | ⟨d, h1, rfl⟩ | ⟨d, h1, rfl⟩ | ⟨d, h1, rfl⟩
  · rcases ab_upS (show va_up (hpO h) a (some c) q = some d from h1) with ⟨e1, e2⟩ | ⟨e1, e2⟩
    · exact Or.inl ⟨e1, by rw [e2]⟩
    · exact Or.inr ⟨Or.inl ⟨d, e2, rfl⟩, Or.inl e1⟩
  · exact Or.inr ⟨Or.inr (Or.inl ⟨d, h1, rfl⟩), Or.inr (by simp)⟩
  · exact Or.inr ⟨Or.inr (Or.inr (Or.inl ⟨d, h1, rfl⟩)), Or.inr (by simp)⟩
  · exact Or.inr ⟨Or.inr (Or.inr (Or.inr (Or.inl ⟨d, h1, rfl⟩))), Or.inr (by simp)⟩
  · exact Or.inr ⟨Or.inr (Or.inr (Or.inr (Or.inr ⟨d, h1, rfl⟩))), Or.inr (by simp)⟩
theorem ab_atI {G : AbG} {h : AbH} {a : Nat} {c : Nat × (Nat → Int)} : ∀ (q : Nat) (x : Nat × va_E), ab_at G (hsI h a c) q x → (q = a ∧ x = (1, ab_eI G c)) ∨ (ab_at G h q x ∧ (q ≠ a ∨ x.1 ≠ 1)) := by
  intro q x hx
  rcases hx with ⟨d, h1, rfl⟩ | ⟨d, h1, rfl⟩ | ⟨d, h1, rfl⟩ | ⟨d, h1, rfl⟩ | ⟨d, h1, rfl⟩
  · exact Or.inr ⟨Or.inl ⟨d, h1, rfl⟩, Or.inr (by simp)⟩
  · rcases ab_upS (show va_up (hpI h) a (some c) q = some d from h1) with ⟨e1, e2⟩ | ⟨e1, e2⟩
    · exact Or.inl ⟨e1, by rw [e2]⟩
    · exact Or.inr ⟨Or.inr (Or.inl ⟨d, e2, rfl⟩), Or.inl e1⟩
  · exact Or.inr ⟨Or.inr (Or.inr (Or.inl ⟨d, h1, rfl⟩)), Or.inr (by simp)⟩
  · exact Or.inr ⟨Or.inr (Or.inr (Or.inr (Or.inl ⟨d, h1, rfl⟩))), Or.inr (by simp)⟩
  · exact Or.inr ⟨Or.inr (Or.inr (Or.inr (Or.inr ⟨d, h1, rfl⟩))), Or.inr (by simp)⟩
theorem ab_atJ {G : AbG} {h : AbH} {a : Nat} {c : Nat × (Nat → Int)} : ∀ (q : Nat) (x : Nat × va_E), ab_at G (hsJ h a c) q x → (q = a ∧ x = (2, ab_eJ G c)) ∨ (ab_at G h q x ∧ (q ≠ a ∨ x.1 ≠ 2)) := by
  intro q x hx
  rcases hx with ⟨d, h1, rfl⟩ | ⟨d, h1, rfl⟩ | ⟨d, h1, rfl⟩ | ⟨d, h1, rfl⟩ | ⟨d, h1, rfl⟩
  · exact Or.inr ⟨Or.inl ⟨d, h1, rfl⟩, Or.inr (by simp)⟩
  · exact Or.inr ⟨Or.inr (Or.inl ⟨d, h1, rfl⟩), Or.inr (by simp)⟩
  · rcases ab_upS (show va_up (hpJ h) a (some c) q = some d from h1) with ⟨e1, e2⟩ | ⟨e1, e2⟩
    · exact Or.inl ⟨e1, by rw [e2]⟩
    · exact Or.inr ⟨Or.inr (Or.inr (Or.inl ⟨d, e2, rfl⟩)), Or.inl e1⟩
  · exact Or.inr ⟨Or.inr (Or.inr (Or.inr (Or.inl ⟨d, h1, rfl⟩))), Or.inr (by simp)⟩
  · exact Or.inr ⟨Or.inr (Or.inr (Or.inr (Or.inr ⟨d, h1, rfl⟩))), Or.inr (by simp)⟩
theorem ab_atZ {G : AbG} {h : AbH} {a : Nat} {c : Nat × (Nat → Int)} : ∀ (q : Nat) (x : Nat × va_E), ab_at G (hsZ h a c) q x → (q = a ∧ x = (3, ab_eZ G c)) ∨ (ab_at G h q x ∧ (q ≠ a ∨ x.1 ≠ 3)) := by
  intro q x hx
  rcases hx with ⟨d, h1, rfl⟩ | ⟨d, h1, rfl⟩ | ⟨d, h1, rfl⟩ | ⟨d, h1, rfl⟩ | ⟨d, h1, rfl⟩
  · exact Or.inr ⟨Or.inl ⟨d, h1, rfl⟩, Or.inr (by simp)⟩
  · exact Or.inr ⟨Or.inr (Or.inl ⟨d, h1, rfl⟩), Or.inr (by simp)⟩
  · exact Or.inr ⟨Or.inr (Or.inr (Or.inl ⟨d, h1, rfl⟩)), Or.inr (by simp)⟩
  · rcases ab_upS (show va_up (hpZ h) a (some c) q = some d from h1) with ⟨e1, e2⟩ | ⟨e1, e2⟩
    · exact Or.inl ⟨e1, by rw [e2]⟩
    · exact Or.inr ⟨Or.inr (Or.inr (Or.inr (Or.inl ⟨d, e2, rfl⟩))), Or.inl e1⟩
  · exact Or.inr ⟨Or.inr (Or.inr (Or.inr (Or.inr ⟨d, h1, rfl⟩))), Or.inr (by simp)⟩
theorem ab_atR {G : AbG} {h : AbH} {a : Nat} {c : Nat × Nat × (Nat → Option Nat)} : ∀ (q : Nat) (x : Nat × va_E), ab_at G (hsR h a c) q x → (q = a ∧ x = (4, ab_eR G c)) ∨ (ab_at G h q x ∧ (q ≠ a ∨ x.1 ≠ 4)) := by
  intro q x hx
  rcases hx with ⟨d, h1, rfl⟩ | ⟨d, h1, rfl⟩ | ⟨d, h1, rfl⟩ | ⟨d, h1, rfl⟩ | ⟨d, h1, rfl⟩
  · exact Or.inr ⟨Or.inl ⟨d, h1, rfl⟩, Or.inr (by simp)⟩
  · exact Or.inr ⟨Or.inr (Or.inl ⟨d, h1, rfl⟩), Or.inr (by simp)⟩
  · exact Or.inr ⟨Or.inr (Or.inr (Or.inl ⟨d, h1, rfl⟩)), Or.inr (by simp)⟩
  · exact Or.inr ⟨Or.inr (Or.inr (Or.inr (Or.inl ⟨d, h1, rfl⟩))), Or.inr (by simp)⟩
  · rcases ab_upS (show va_up (hpR h) a (some c) q = some d from h1) with ⟨e1, e2⟩ | ⟨e1, e2⟩
    · exact Or.inl ⟨e1, by rw [e2]⟩
    · exact Or.inr ⟨Or.inr (Or.inr (Or.inr (Or.inr ⟨d, e2, rfl⟩))), Or.inl e1⟩
/-- no cell of the map at this address -/
def ab_new (h : AbH) (q : Nat) : Prop := hpO h q = none ∧ hpI h q = none ∧ hpJ h q = none ∧ hpZ h q = none ∧ hpR h q = none
theorem ab_new_at {G : AbG} {h : AbH} {q : Nat} (hn : ab_new h q) : ∀ x : Nat × va_E, ¬ ab_at G h q x := by
  obtain ⟨h1, h2, h3, h4, h5⟩ := hn
  intro x hx
  rcases hx with ⟨d, e, -⟩ | ⟨d, e, -⟩ | ⟨d, e, -⟩ | ⟨d, e, -⟩ | ⟨d, e, -⟩
  · rw [h1] at e; cases e
  · rw [h2] at e; cases e
  · rw [h3] at e; cases e
  · rw [h4] at e; cases e
  · rw [h5] at e; cases e
theorem Rl.fresh {G : AbG} {h : AbH} {H : Heap} (R : Rl G h H) : ab_new h H.size := by
  have key : ∀ x : Nat × va_E, ¬ ab_at G h H.size x := fun x hx => absurd (R.1 _ x hx).2.lt (Nat.lt_irrefl _)
  refine ⟨?_, ?_, ?_, ?_, ?_⟩
  · cases e : hpO h H.size with
    | none => rfl
    | some c => exact absurd (Or.inl ⟨c, e, rfl⟩) (key (0, ab_eO c))
  · cases e : hpI h H.size with
    | none => rfl
    | some c => exact absurd (Or.inr (Or.inl ⟨c, e, rfl⟩)) (key (1, ab_eI G c))
  · cases e : hpJ h H.size with
    | none => rfl
    | some c => exact absurd (Or.inr (Or.inr (Or.inl ⟨c, e, rfl⟩))) (key (2, ab_eJ G c))
  · cases e : hpZ h H.size with
    | none => rfl
    | some c => exact absurd (Or.inr (Or.inr (Or.inr (Or.inl ⟨c, e, rfl⟩)))) (key (3, ab_eZ G c))
  · cases e : hpR h H.size with
    | none => rfl
    | some c => exact absurd (Or.inr (Or.inr (Or.inr (Or.inr ⟨c, e, rfl⟩)))) (key (4, ab_eR G c))
theorem ab_rgO {h : AbH} {a : Nat} {c : Nat × List AbV} (r : ab_rg h) (hc : ∀ v ∈ c.2, ab_ok v) : ab_rg (hsO h a c) := by
  refine ⟨fun q d hd => ?_, r.2.1, r.2.2.1, r.2.2.2.1, r.2.2.2.2⟩
  rcases ab_upS (show va_up (hpO h) a (some c) q = some d from hd) with ⟨e1, e2⟩ | ⟨e1, e2⟩
  · rw [e2]; exact hc
  · exact r.1 q d e2
theorem ab_rgI {h : AbH} {a : Nat} {c : Nat × (Nat → Int)} (r : ab_rg h) (hc : c.1 < 2147483648 ∧ ∀ j, in32 (c.2 j)) : ab_rg (hsI h a c) := by
  refine ⟨r.1, fun q d hd => ?_, r.2.2.1, r.2.2.2.1, r.2.2.2.2⟩
  rcases ab_upS (show va_up (hpI h) a (some c) q = some d from hd) with ⟨e1, e2⟩ | ⟨e1, e2⟩
  · rw [e2]; exact hc
  · exact r.2.1 q d e2
theorem ab_rgJ {h : AbH} {a : Nat} {c : Nat × (Nat → Int)} (r : ab_rg h) (hc : c.1 < 2147483648 ∧ ∀ j, in64 (c.2 j)) : ab_rg (hsJ h a c) := by
  refine ⟨r.1, r.2.1, fun q d hd => ?_, r.2.2.2.1, r.2.2.2.2⟩
  rcases ab_upS (show va_up (hpJ h) a (some c) q = some d from hd) with ⟨e1, e2⟩ | ⟨e1, e2⟩
  · rw [e2]; exact hc
  · exact r.2.2.1 q d e2
theorem ab_rgZ {h : AbH} {a : Nat} {c : Nat × (Nat → Int)} (r : ab_rg h) (hc : c.1 < 2147483648 ∧ ∀ j, c.2 j = 0 ∨ c.2 j = 1) : ab_rg (hsZ h a c) := by
  refine ⟨r.1, r.2.1, r.2.2.1, fun q d hd => ?_, r.2.2.2.2⟩
  rcases ab_upS (show va_up (hpZ h) a (some c) q = some d from hd) with ⟨e1, e2⟩ | ⟨e1, e2⟩
  · rw [e2]; exact hc
  · exact r.2.2.2.1 q d e2
theorem ab_rgR {h : AbH} {a : Nat} {c : Nat × Nat × (Nat → Option Nat)} (r : ab_rg h) (hc : c.2.1 < 2147483648 ∧ (c.1 = 0 ∨ c.1 = 2 ∨ c.1 = 7)) : ab_rg (hsR h a c) := by
  refine ⟨r.1, r.2.1, r.2.2.1, r.2.2.2.1, fun q d hd => ?_⟩
  rcases ab_upS (show va_up (hpR h) a (some c) q = some d from hd) with ⟨e1, e2⟩ | ⟨e1, e2⟩
  · rw [e2]; exact hc
  · exact r.2.2.2.2 q d e2
/-! what is known of the tables -/
def st_len : List Nat := [3, 4, 4, 3]
def st_byt : List (List Int32) := [[108, 97, 119], [109, 101, 101, 116], [108, 111, 97, 110], [97, 108, 108]]
def st_idx : List Nat := [46, 55, 60, 65]
def st_tx : List String := ["law", "meet", "loan", "all"]
def ab_tys (G : AbG) : List (ClassId × FieldType) := [(gC G 0, .int), (gC G 1, .long), (gC G 2, .boolean), (gC G 3, .object RX1), (gC G 5, .object RX3), (gC G 10, .object RX8)]
def ab_nest : List (String × Nat × MethodName × String) := [("LoanLayers", 18, ⟨"LoanLayers$Past", "<init>", "()V"⟩, "LoanLayers"), ("LoanLayers", 29, ⟨"LoanLayers$Text", "<init>", "()V"⟩, "LoanLayers"), ("LoanLayers", 36, ⟨"LoanLayers$Windows", "<init>", "()V"⟩, "LoanLayers"), ("LoanLayers", 43, ⟨"LoanLayers$Layers", "<init>", "()V"⟩, "LoanLayers"), ("LoanLayers", 50, ⟨"LoanLayers$Way", "<init>", "()V"⟩, "LoanLayers"), ("LoanLayers$Text", 31, ⟨"LoanLayers", "within", "(III)Z"⟩, "LoanLayers"), ("LoanLayers$World", 42, ⟨"LoanLayers", "within", "(III)Z"⟩, "LoanLayers"), ("LoanLayers$Text", 126, ⟨"LoanLayers", "pairOf", "(II)I"⟩, "LoanLayers"), ("LoanLayers$Past", 21, ⟨"LoanLayers", "within", "(III)Z"⟩, "LoanLayers"), ("LoanLayers$Windows", 30, ⟨"LoanLayers", "pairOf", "(II)I"⟩, "LoanLayers"), ("LoanLayers$Windows", 73, ⟨"LoanLayers", "within", "(III)Z"⟩, "LoanLayers"), ("LoanLayers$Layers", 66, ⟨"LoanLayers", "within", "(III)Z"⟩, "LoanLayers"), ("LoanLayers$Way", 63, ⟨"LoanLayers", "isDate", "(I)Z"⟩, "LoanLayers"), ("LoanLayers$Way", 70, ⟨"LoanLayers", "isTongue", "(I)Z"⟩, "LoanLayers"), ("LoanLayers$Way", 50, ⟨"LoanLayers", "within", "(III)Z"⟩, "LoanLayers"), ("LoanLayers$Way", 103, ⟨"LoanLayers", "pairOf", "(II)I"⟩, "LoanLayers")]
def Kn (G : AbG) (s : State) : Prop :=
  va_K (gD G) vwCl (ab_tys G) s ∧ (∀ t ∈ ab_nest, va_Nw (.methodLinkNest t.1 t.2.1 t.2.2.1 t.2.2.2) s) ∧ (va_AO RX1 s ∧ va_AO RX3 s ∧ va_AO RX8 s) ∧
  (∀ i, i < 4 → vk_R RX5 (st_idx.getD i 0) (st_tx.getD i "") (gK G i) s) ∧ vk_S 4 st_len st_byt (gK G) (gV G) (fun q => (gH G).size ≤ q) s (gH G) ∧
  va_Z "java/lang/String" "COMPACT_STRINGS" "Z" (.int 1) (fun q => (gH G).size ≤ q) s (gH G) ∧ va_Zq "jdk/internal/util/Preconditions" "SIOOBE_FORMATTER" "Ljava/util/function/BiFunction;" (fun q => (gH G).size ≤ q) s (gH G) ∧
  ∀ (q : Nat) (c : Nat × (Nat → Int)), gM G q = some c → q < (gH G).size ∧ c.1 < 2147483648 ∧ (∀ j, in32 (c.2 j)) ∧ va_X q c.1 (fun j => Int32.ofInt (c.2 j)) s (gH G)
theorem Kn.warm {G : AbG} {s U : State} (hW : s.WarmedH U.vm) (h : Kn G s) : Kn G U := by
  obtain ⟨h1, h2, ⟨a1, a2, a3⟩, h4, h5, h6, h7, h8⟩ := h
  have hv := hW.alike
  refine ⟨va_K.moved hv h1, fun t ht => va_Nw.warmM hW (h2 t ht), ⟨a1.moved hv, a2.moved hv, a3.moved hv⟩, fun i hi => (h4 i hi).warm hW, h5.moved hv, va_Z.moved hv h6, va_Zq.moved hv h7, fun q c hq => ?_⟩
  obtain ⟨g1, g2, g3, g4⟩ := h8 q c hq
  exact ⟨g1, g2, g3, g4.moved hv⟩
theorem Kn.same {G : AbG} {s U : State} (hv : U.vm = s.vm) (h : Kn G s) : Kn G U := by
  obtain ⟨h1, h2, ⟨a1, a2, a3⟩, h4, h5, h6, h7, h8⟩ := h
  have ha : s.vm.Alike U.vm := by rw [hv]; exact Vm.Alike.refl _
  refine ⟨va_K.moved ha h1, fun t ht => va_Nw.same rfl hv.symm (h2 t ht), ⟨a1.moved ha, a2.moved ha, a3.moved ha⟩, fun i hi => (h4 i hi).same hv, h5.moved ha, va_Z.moved ha h6, va_Zq.moved ha h7, fun q c hq => ?_⟩
  obtain ⟨g1, g2, g3, g4⟩ := h8 q c hq
  exact ⟨g1, g2, g3, g4.moved ha⟩
/-! methods: name, code, locals, return type, cells and slots that a call may make -/
abbrev AbM : Type := MethodName × ByteArray × Nat × Option FieldType × Nat × Nat
def mY (md : AbM) : MethodName := md.1
def mC (md : AbM) : ByteArray := md.2.1
def mL (md : AbM) : Nat := md.2.2.1
def mR (md : AbM) : Option FieldType := md.2.2.2.1
def mN (md : AbM) : Nat := md.2.2.2.2.1
def mS (md : AbM) : Nat := md.2.2.2.2.2
def lwW : List Cond := lw_tbl.filter goodWord
theorem lw_in {w : Cond} (h : w ∈ lw_tbl) (g : goodWord w = true) : w ∈ lwW := List.mem_filter.mpr ⟨h, g⟩
def wsOf (md : AbM) : List Cond := Cond.code (mY md) (mC md) (mL md) (mR md) :: lwW
def rmOf (d : Nat) (md : AbM) : Room := { frames := d, cells := mN md, slots := mS md, locals := 64 * d }
def PcV (G : AbG) (av : List AbV) (h : AbH) : Array Value → State → Prop := fun v U => v = (av.map ab_cv).toArray ∧ (∀ a ∈ av, ab_ok a) ∧ Rl G h U.heap ∧ Kn G U
def QcV (G : AbG) (K : Option AbV → AbH → Prop) : Array Value → State → Outcome → State → Prop := fun _ _ o t => ∃ (r : Option AbV) (h : AbH), o = .returned (r.map ab_cv) ∧ (∀ a, r = some a → ab_ok a) ∧ Rl G h t.heap ∧ K r h
/-- the method's contract: from the heap h with these arguments it returns, and K holds of answer and heap -/
def Vm (d : Nat) (md : AbM) (av : List AbV) (h : AbH) (K : Option AbV → AbH → Prop) : Prop :=
  ∀ (l : Launch) (G : AbG), Met l (mY md) (wsOf md) (rmOf d md) (PcV G av h) (QcV G K) (mN md) (mS md) (fun q => (gH G).size ≤ q)
def Cx (G : AbG) (d : Nat) (md : AbM) (R : Room) (p : Program) (s : State) (m : MethodId) (args : Array Value) (meth : Method) (c : Code) : Prop :=
  p.tables.exec = Jvm.exec ∧ c.code = mC md ∧ c.maxLocals = mL md ∧ meth.sig.returnType = mR md ∧ s.vm.findClass (mY md).cls = some m.cls ∧ (∀ w ∈ lwW, w.before args s = true) ∧ meth.locks = false ∧ meth.name = (mY md).name ∧ Kn G s ∧ d ≤ R.frames ∧ 64 * d ≤ R.locals ∧ R.cells = mN md ∧ R.slots = mS md
def ab_la : Nat → List (Option AbV) → List (Nat × Value)
  | _, [] => []
  | i, none :: t => ab_la (i + 1) t
  | i, some v :: t => (i, ab_cv v) :: ab_la (i + 1) t
theorem ab_la_mem : ∀ (ls : List (Option AbV)) (k i : Nat) (v : AbV), ls[i]? = some (some v) → (k + i, ab_cv v) ∈ ab_la k ls := by
  intro ls
  induction ls with
  | nil => intro k i v h; simp at h
  | cons x t ih =>
    intro k i v h
    cases i with
    | zero =>
      simp only [List.getElem?_cons_zero, Option.some.injEq] at h
      subst h
      exact List.mem_cons_self
    | succ i =>
      rw [List.getElem?_cons_succ] at h
      have h1 := ih (k + 1) i v h
      rw [show k + 1 + i = k + (i + 1) by omega] at h1
      cases x with
      | none => exact h1
      | some w => exact List.mem_cons_of_mem _ h1
theorem ab_la_inv : ∀ (ls : List (Option AbV)) (k : Nat) (q : Nat × Value), q ∈ ab_la k ls → ∃ (i : Nat) (v : AbV), q = (k + i, ab_cv v) ∧ ls[i]? = some (some v) := by
  intro ls
  induction ls with
  | nil => intro k q h; cases h
  | cons x t ih =>
    intro k q h
    have go : q ∈ ab_la (k + 1) t → ∃ (i : Nat) (v : AbV), q = (k + i, ab_cv v) ∧ (x :: t)[i]? = some (some v) := by
      intro h2
      obtain ⟨i, v, e1, e2⟩ := ih (k + 1) q h2
      exact ⟨i + 1, v, by rw [e1]; rw [show k + 1 + i = k + (i + 1) by omega], by rw [List.getElem?_cons_succ]; exact e2⟩
    cases x with
    | none => exact go h
    | some w =>
      rcases List.mem_cons.mp h with h | h
      · exact ⟨0, w, h, rfl⟩
      · exact go h
def lvR (lsr : Array Slot) (n : Nat) (ls : List (Option AbV)) : Prop := lv_has lsr n (ab_la 0 ls)
theorem lvR.get {lsr : Array Slot} {n i : Nat} {ls : List (Option AbV)} {v : AbV} (h : lvR lsr n ls) (hi : ls[i]? = some (some v)) : lsr[i]? = some (.val (ab_cv v)) := by
  have := h.2.2 _ (ab_la_mem ls 0 i v hi)
  simpa using this
theorem lvR.to {lsr : Array Slot} {n : Nat} {ls ls' : List (Option AbV)} (h : lvR lsr n ls) (hi : ∀ (i : Nat) (v : AbV), ls'[i]? = some (some v) → lsr[i]? = some (.val (ab_cv v))) : lvR lsr n ls' := by
  refine ⟨h.1, h.2.1, fun q hq => ?_⟩
  obtain ⟨i, v, e1, e2⟩ := ab_la_inv ls' 0 q hq
  rw [e1]
  have := hi i v e2
  simpa using this
/-- fewer locals known -/
def ab_sub : List (Option AbV) → List (Option AbV) → Prop
  | [], _ => True
  | none :: t, _ :: u => ab_sub t u
  | some v :: t, w :: u => w = some v ∧ ab_sub t u
  | none :: t, [] => ab_sub t []
  | some _ :: _, [] => False
theorem ab_sub_get : ∀ (a b : List (Option AbV)), ab_sub a b → ∀ (i : Nat) (v : AbV), a[i]? = some (some v) → b[i]? = some (some v) := by
  intro a
  induction a with
  | nil => intro b _ i v h; simp at h
  | cons x t ih =>
    intro b hs i v h
    cases b with
    | nil =>
      cases x with
      | none =>
        cases i with
        | zero => simp at h
        | succ i => rw [List.getElem?_cons_succ] at h; have := ih [] hs i v h; simp at this
      | some w => exact absurd hs id
    | cons y u =>
      cases x with
      | none =>
        cases i with
        | zero => simp at h
        | succ i => rw [List.getElem?_cons_succ] at h ⊢; exact ih u hs i v h
      | some w =>
        cases i with
        | zero =>
          simp only [List.getElem?_cons_zero, Option.some.injEq] at h ⊢
          rw [hs.1, h]
        | succ i => rw [List.getElem?_cons_succ] at h ⊢; exact ih u hs.2 i v h
/-- the rest of the method: at pc, with these locals, stack and heap, bc cells and bs slots still to be made, it comes to an end with K -/
def Vx (d : Nat) (md : AbM) (bc bs pc : Nat) (ls : List (Option AbV)) (st : List AbV) (h : AbH) (K : Option AbV → AbH → Prop) : Prop :=
  ∀ (l : Launch) (G : AbG) (p : Program) (e : Env) (R : Room) (s : State) (m : MethodId) (args : Array Value) (below : List Frame) (meth : Method) (c : Code) (H : Heap) (locs : List Loc) (cells slots : Nat) (lsr : Array Slot),
    Cx G d md R p s m args meth c → lvR lsr (mL md) ls → (∀ v ∈ st, ab_ok v) → (∀ v, some v ∈ ls → ab_ok v) → Rl G h H → (∀ q ∈ locs, (gH G).size ≤ q.base) → cells + bc ≤ mN md → slots + bs ≤ mS md →
    W p l e R s m args below meth c H locs cells slots (MQ below (QcV G K) args s (mN md) (mS md) (fun q => (gH G).size ≤ q)) (F0 m pc lsr (st.map ab_cv))
theorem Vx.forget {d : Nat} {md : AbM} {bc bs pc : Nat} {ls ls' : List (Option AbV)} {st : List AbV} {h : AbH} {K : Option AbV → AbH → Prop} (hs : ab_sub ls' ls) (k : Vx d md bc bs pc ls' st h K) : Vx d md bc bs pc ls st h K := by
  intro l G p e R s m args below meth c H locs cells slots lsr C hL hst hls hR hlo hbc hbs
  refine k l G p e R s m args below meth c H locs cells slots lsr C (hL.to fun i v hi => hL.get (ab_sub_get _ _ hs i v hi)) hst (fun v hv => ?_) hR hlo hbc hbs
  obtain ⟨i, hi⟩ := List.getElem?_of_mem hv
  exact hls v (List.mem_of_getElem? (ab_sub_get _ _ hs i v hi))
theorem Vx.less {d : Nat} {md : AbM} {bc bs bc' bs' pc : Nat} {ls : List (Option AbV)} {st : List AbV} {h : AbH} {K : Option AbV → AbH → Prop} (h1 : bc' ≤ bc) (h2 : bs' ≤ bs) (k : Vx d md bc' bs' pc ls st h K) : Vx d md bc bs pc ls st h K := by
  intro l G p e R s m args below meth c H locs cells slots lsr C hL hst hls hR hlo hbc hbs
  exact k l G p e R s m args below meth c H locs cells slots lsr C hL hst hls hR hlo (by omega) (by omega)
/-- the locals with which a method begins -/
def ab_args : List AbV → List (Option AbV)
  | [] => []
  | .inr (.inl n) :: t => some (vL n) :: none :: ab_args t
  | .inl n :: t => some (vI n) :: ab_args t
  | .inr (.inr r) :: t => some (vR r) :: ab_args t
theorem ab_cat (r : Option Nat) : (va_rf r).category = 1 := by cases r <;> rfl
theorem ab_args_la : ∀ (av : List AbV) (k : Nat), ab_la k (ab_args av) = lv_args k (av.map ab_cv) := by
  intro av
  induction av with
  | nil => intro k; rfl
  | cons x t ih =>
    intro k
    rcases x with n | n | r
    · show (k, ab_cv (vI n)) :: ab_la (k + 1) (ab_args t) = (k, ab_cv (vI n)) :: lv_args (k + 1) (t.map ab_cv)
      rw [ih]
    · show (k, ab_cv (vL n)) :: ab_la (k + 1 + 1) (ab_args t) = (k, ab_cv (vL n)) :: lv_args (k + 2) (t.map ab_cv)
      rw [ih]
    · show (k, ab_cv (vR r)) :: ab_la (k + 1) (ab_args t) = (k, ab_cv (vR r)) :: lv_args (if (va_rf r).category = 2 then k + 2 else k + 1) (t.map ab_cv)
      rw [ih, ab_cat, if_neg (by decide)]
theorem ab_args_len : ∀ av : List AbV, (lg_sl (av.map ab_cv)).length = (ab_args av).length := by
  intro av
  induction av with
  | nil => rfl
  | cons x t ih =>
    have h1 : lg_sl ((x :: t).map ab_cv) = (if (ab_cv x).category = 2 then [Slot.val (ab_cv x), .second] else [.val (ab_cv x)]) ++ lg_sl (t.map ab_cv) := rfl
    rw [h1, List.length_append, ih]
    rcases x with n | n | r
    · show 1 + _ = (ab_args t).length + 1
      omega
    · show 2 + _ = (ab_args t).length + 1 + 1
      omega
    · show (if (va_rf r).category = 2 then [Slot.val (va_rf r), .second] else [.val (va_rf r)]).length + _ = (ab_args t).length + 1
      rw [ab_cat, if_neg (by decide)]
      show 1 + _ = _
      omega
theorem ab_args_ok : ∀ av : List AbV, (∀ a ∈ av, ab_ok a) → ∀ v, some v ∈ ab_args av → ab_ok v := by
  intro av
  induction av with
  | nil => intro _ v h; cases h
  | cons x t ih =>
    intro ha v h
    have h1 := ha x List.mem_cons_self
    have h2 := ih (fun a q => ha a (List.mem_cons_of_mem _ q)) v
    rcases x with n | n | r
    · rcases List.mem_cons.mp h with h | h
      · cases h; exact h1
      · exact h2 h
    · rcases List.mem_cons.mp h with h | h
      · cases h; exact h1
      · rcases List.mem_cons.mp h with h | h
        · cases h
        · exact h2 h
    · rcases List.mem_cons.mp h with h | h
      · cases h; trivial
      · exact h2 h
theorem Vm.intro {d : Nat} {md : AbM} {av : List AbV} {h : AbH} {K : Option AbV → AbH → Prop} (hy : plainName (mY md).cls = true) (hn : (ab_args av).length ≤ mL md) (k : (∀ a ∈ av, ab_ok a) → Vx d md (mN md) (mS md) 0 (ab_args av) [] h K) : Vm d md av h K := by
  intro l G
  refine Met.ofW (cc := mC md) (maxL := mL md) (ret := mR md) hy rfl ?_
  intro p e s m args below meth c s₁ B hml hv
  obtain ⟨rfl, ho, hR, hK⟩ := hv
  have hts := atoms_spec (ws := wsOf md) B.pre
  have hl := lv_entry (av.map ab_cv) (n := mL md) (by rw [ab_args_len]; exact hn)
  rw [lg_entry_eq]
  generalize (lg_sl (av.map ab_cv) ++ List.replicate (mL md - (lg_sl (av.map ab_cv)).length) Slot.unset).toArray = lsr at hl ⊢
  rw [← ab_args_la] at hl
  exact k ho l G p e _ s m _ below meth c s.heap [] 0 0 lsr ⟨B.exec, B.bytes, hml, B.returns, findClass_of_methodNamed B.named, fun w hw => hts w (List.mem_cons_of_mem _ hw), B.notSynchronized, (name_of_methodNamed B.named B.method).1, hK, Nat.le_refl _, Nat.le_refl _, rfl, rfl⟩ hl (fun v h => by cases h) (ab_args_ok av ho) hR (fun q h => by cases h) (by omega) (by omega)
