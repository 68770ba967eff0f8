/-! roads: codes 4 * date + tongue -/
def begB (w : Nat → Int) (d : Nat) : Bool := decide (d = 0) || anyN (fun k => decide (lw w k 1 = (d : Int))) (nl w) || anyN (fun p => decide (w (98 + 2 * p) = (d : Int) + 1)) 16
def arrM (w : Nat → Int) (E : List Int) (g : Int) : Int → Nat → List Int → List Nat → Prop
  | t, d, f, [] => t = g ∧ dev w t (d : Int) 99 f = E
  | t, d, f, c :: cs => wMet w t ((c % 4 : Nat) : Int) ((c / 4 : Nat) : Int) ∧ arrM w E g ((c % 4 : Nat) : Int) (c / 4) (dev w t (d : Int) ((c / 4 : Nat) : Int) f) cs
def okP (w : Nat → Int) : Nat → List Nat → Prop
  | _, [] => True
  | d, c :: cs => begB w (c / 4) = true ∧ d ≤ c / 4 ∧ c / 4 ≤ 99 ∧ okP w (c / 4) cs
def lexL : List Nat → List Nat → Prop
  | c :: cs, c' :: cs' => c < c' ∨ (c = c' ∧ lexL cs cs')
  | _, _ => False
/-- the answer n with the steps s -/
def isRd (w : Nat → Int) (k : Nat) (t : Int) (e : Nat) (g : Int) (n : Int) (l : List Nat) : Prop :=
  (n = -1 ∧ l = [] ∧ ∀ l', l'.length ≤ 3 → okP w 0 l' → ¬ arrM w (wend w e) g t 0 (word w k) l') ∨
  (n = (l.length : Int) ∧ l.length ≤ 3 ∧ okP w 0 l ∧ arrM w (wend w e) g t 0 (word w k) l ∧ (∀ l', l'.length < l.length → okP w 0 l' → ¬ arrM w (wend w e) g t 0 (word w k) l') ∧ ∀ l', l'.length = l.length → lexL l' l → okP w 0 l' → ¬ arrM w (wend w e) g t 0 (word w k) l')
theorem lex_tri : ∀ (a b : List Nat), a.length = b.length → lexL a b ∨ a = b ∨ lexL b a
  | [], [], _ => Or.inr (Or.inl rfl)
  | a :: as, b :: bs, h => by
    have hl : as.length = bs.length := by simpa using h
    rcases Nat.lt_trichotomy a b with c | c | c
    · exact Or.inl (Or.inl c)
    · rcases lex_tri as bs hl with q | q | q
      · exact Or.inl (Or.inr ⟨c, q⟩)
      · exact Or.inr (Or.inl (by rw [c, q]))
      · exact Or.inr (Or.inr (Or.inr ⟨c.symm, q⟩))
    · exact Or.inr (Or.inr (Or.inl c))
theorem isRd_uniq {w : Nat → Int} {k : Nat} {t : Int} {e : Nat} {g : Int} {n n' : Int} {l l' : List Nat} (h : isRd w k t e g n l) (h' : isRd w k t e g n' l') : n = n' ∧ l = l' := by
  rcases h with ⟨a1, a2, a3⟩ | ⟨a1, a2, a3, a4, a5, a6⟩
  · rcases h' with ⟨b1, b2, b3⟩ | ⟨b1, b2, b3, b4, b5, b6⟩
    · exact ⟨a1.trans b1.symm, a2.trans b2.symm⟩
    · exact absurd b4 (a3 l' b2 b3)
  · rcases h' with ⟨b1, b2, b3⟩ | ⟨b1, b2, b3, b4, b5, b6⟩
    · exact absurd a4 (b3 l a2 a3)
    · have hl : l.length = l'.length := by
        rcases Nat.lt_trichotomy l.length l'.length with c | c | c
        · exact absurd a4 (b5 l c a3)
        · exact c
        · exact absurd b4 (a5 l' c b3)
      rcases lex_tri l l' hl with c | c | c
      · exact absurd a4 (b6 l hl c a3)
      · exact ⟨by rw [a1, b1, hl], c⟩
      · exact absurd b4 (a6 l' hl.symm c b3)
theorem anyN_iff {c : Nat → Bool} : ∀ n, anyN c n = true ↔ ∃ i, i < n ∧ c i = true
  | 0 => ⟨fun h => absurd h (by unfold anyN; decide), fun ⟨i, hi, _⟩ => absurd hi (by omega)⟩
  | n + 1 => by
    unfold anyN
    rw [Bool.or_eq_true, anyN_iff n]
    constructor
    · rintro (⟨i, hi, q⟩ | q)
      · exact ⟨i, by omega, q⟩
      · exact ⟨n, by omega, q⟩
    · rintro ⟨i, hi, q⟩
      by_cases e : i = n
      · subst e; exact Or.inr q
      · exact Or.inl ⟨i, by omega, q⟩
theorem cntN_or (p q : Nat → Bool) : ∀ n, cntN (fun i => p i || q i) n ≤ cntN p n + cntN q n
  | 0 => Nat.le_refl _
  | n + 1 => by
    have := cntN_or p q n
    unfold cntN
    cases hp : p n <;> cases hq : q n <;> simp <;> omega
theorem cntN_0 {p : Nat → Bool} : ∀ n, (∀ i, i < n → ¬ p i = true) → cntN p n = 0
  | 0, _ => rfl
  | n + 1, h => by
    unfold cntN
    rw [cntN_0 n (fun i hi => h i (by omega)), if_neg (h n (by omega))]
theorem cntN_1 {p : Nat → Bool} (h : ∀ a b, p a = true → p b = true → a = b) : ∀ n, cntN p n ≤ 1
  | 0 => Nat.zero_le _
  | n + 1 => by
    unfold cntN
    by_cases c : p n = true
    · rw [if_pos c, cntN_0 n (fun i hi q => absurd (h i n q c) (by omega))]
      omega
    · rw [if_neg c]
      exact cntN_1 h n
theorem cntN_any {c : Nat → Nat → Bool} (h : ∀ k a b, c k a = true → c k b = true → a = b) (n : Nat) : ∀ m, cntN (fun d => anyN (fun k => c k d) m) n ≤ m
  | 0 => by
    rw [cntN_0 n]
    · exact Nat.le_refl _
    · intro i hi
      unfold anyN
      decide
  | m + 1 => by
    have h1 := cntN_any h n m
    have h2 := cntN_1 (p := c m) (h m) n
    have h3 := cntN_or (fun d => anyN (fun k => c k d) m) (c m) n
    show cntN (fun i => anyN (fun k => c k i) m || c m i) n ≤ m + 1
    omega
theorem beg_cnt {w : Nat → Int} (hn : nl w ≤ 16) (n : Nat) : cntN (begB w) n ≤ 33 := by
  have h1 := cntN_1 (p := fun d => decide (d = 0)) (fun a b ha hb => by rw [of_decide_eq_true ha, of_decide_eq_true hb]) n
  have h2 := cntN_any (c := fun k d => decide (lw w k 1 = (d : Int))) (fun k a b ha hb => by have := of_decide_eq_true ha; have := of_decide_eq_true hb; omega) n (nl w)
  have h3 := cntN_any (c := fun p d => decide (w (98 + 2 * p) = (d : Int) + 1)) (fun k a b ha hb => by have := of_decide_eq_true ha; have := of_decide_eq_true hb; omega) n 16
  have h4 := cntN_or (fun d => decide (d = 0)) (fun d => anyN (fun k => decide (lw w k 1 = (d : Int))) (nl w)) n
  have h5 := cntN_or (fun d => decide (d = 0) || anyN (fun k => decide (lw w k 1 = (d : Int))) (nl w)) (fun d => anyN (fun p => decide (w (98 + 2 * p) = (d : Int) + 1)) 16) n
  show cntN (fun d : Nat => decide (d = 0) || anyN (fun k => decide (lw w k 1 = (d : Int))) (nl w) || anyN (fun p => decide (w (98 + 2 * p) = (d : Int) + 1)) 16) n ≤ 33
  omega
/-- D holds the beginnings below z, in order -/
def isD (w : Nat → Int) (z n : Nat) (D : Nat → Nat) : Prop := (∀ i, i < n → begB w (D i) = true ∧ D i < z) ∧ (∀ i j, i < j → j < n → D i < D j) ∧ ∀ d, d < z → begB w d = true → ∃ i, i < n ∧ D i = d
theorem isD_cg {w : Nat → Int} {z n : Nat} {D D' : Nat → Nat} (h : isD w z n D) (e : ∀ i, i < n → D' i = D i) : isD w z n D' := by
  obtain ⟨h1, h2, h3⟩ := h
  refine ⟨fun i hi => by rw [e i hi]; exact h1 i hi, fun i j hij hj => ?_, fun d hd hb => ?_⟩
  · rw [e i (by omega), e j hj]
    exact h2 i j hij hj
  · obtain ⟨i, hi, q⟩ := h3 d hd hb
    exact ⟨i, hi, by rw [e i hi]; exact q⟩
theorem isD_no {w : Nat → Int} {z n : Nat} {D : Nat → Nat} (h : isD w z n D) (hb : ¬ begB w z = true) : isD w (z + 1) n D := by
  obtain ⟨h1, h2, h3⟩ := h
  refine ⟨fun i hi => ⟨(h1 i hi).1, by have := (h1 i hi).2; omega⟩, h2, fun d hd q => ?_⟩
  by_cases e : d = z
  · subst e; exact absurd q hb
  · exact h3 d (by omega) q
theorem isD_yes {w : Nat → Int} {z n : Nat} {D : Nat → Nat} (h : isD w z n D) (hb : begB w z = true) : isD w (z + 1) (n + 1) (va_up D n z) := by
  obtain ⟨h1, h2, h3⟩ := h
  refine ⟨fun i hi => ?_, fun i j hij hj => ?_, fun d hd q => ?_⟩
  · rw [vu_app]
    by_cases e : i = n
    · rw [if_pos e]; exact ⟨hb, by omega⟩
    · rw [if_neg e]; exact ⟨(h1 i (by omega)).1, by have := (h1 i (by omega)).2; omega⟩
  · rw [vu_app, vu_app, if_neg (show ¬ i = n by omega)]
    by_cases e : j = n
    · rw [if_pos e]; exact (h1 i (by omega)).2
    · rw [if_neg e]; exact h2 i j hij (by omega)
  · by_cases e : d = z
    · exact ⟨n, by omega, by rw [vu_same]; exact e.symm⟩
    · obtain ⟨i, hi, q⟩ := h3 d (by omega) q
      exact ⟨i, by omega, by rw [vu_ne (by omega)]; exact q⟩
/-- the i-th code -/
def cdD (D : Nat → Nat) (i : Nat) : Nat := 4 * D (i / 4) + i % 4
theorem cd_div {D : Nat → Nat} {i : Nat} : cdD D i / 4 = D (i / 4) := by unfold cdD; omega
theorem cd_mod {D : Nat → Nat} {i : Nat} : cdD D i % 4 = i % 4 := by unfold cdD; omega
theorem D_le {w : Nat → Int} {z n : Nat} {D : Nat → Nat} (h : isD w z n D) {i j : Nat} (hi : i < n) (hj : j < n) : D i ≤ D j ↔ i ≤ j := by
  constructor
  · intro q
    by_cases c : i ≤ j
    · exact c
    · have := h.2.1 j i (by omega) hi; omega
  · intro q
    by_cases c : i = j
    · rw [c]; exact Nat.le_refl _
    · have := h.2.1 i j (by omega) hj; omega
theorem cd_lt {w : Nat → Int} {z n : Nat} {D : Nat → Nat} (h : isD w z n D) {i j : Nat} (hi : i < 4 * n) (hj : j < 4 * n) (q : cdD D i < cdD D j) : i < j := by
  unfold cdD at q
  have h1 := D_le h (i := i / 4) (j := j / 4) (by omega) (by omega)
  have h2 := D_le h (i := j / 4) (j := i / 4) (by omega) (by omega)
  by_cases c : i / 4 < j / 4
  · omega
  · have := h2.mpr (by omega)
    by_cases c2 : D (i / 4) = D (j / 4)
    · have := h1.mp (by omega); omega
    · omega
theorem cd_of {w : Nat → Int} {n : Nat} {D : Nat → Nat} (h : isD w 100 n D) {c : Nat} (hb : begB w (c / 4) = true) (hc : c / 4 ≤ 99) : ∃ i, i < 4 * n ∧ cdD D i = c := by
  obtain ⟨i, hi, q⟩ := h.2.2 (c / 4) (by omega) hb
  refine ⟨4 * i + c % 4, by omega, ?_⟩
  unfold cdD
  rw [show (4 * i + c % 4) / 4 = i by omega, q]
  omega
theorem okP_cons {w : Nat → Int} {n : Nat} {D : Nat → Nat} (h : isD w 100 n D) {d : Nat} {c : Nat} {cs : List Nat} (hk : okP w d (c :: cs)) : ∃ i, i < 4 * n ∧ cdD D i = c ∧ d ≤ D (i / 4) ∧ okP w (D (i / 4)) cs := by
  obtain ⟨h1, h2, h3, h4⟩ := hk
  obtain ⟨i, hi, e⟩ := cd_of h h1 h3
  have e2 : D (i / 4) = c / 4 := by rw [← e, cd_div]
  exact ⟨i, hi, e, by rw [e2]; exact h2, by rw [e2]; exact h4⟩
theorem okP_mk {w : Nat → Int} {n : Nat} {D : Nat → Nat} (h : isD w 100 n D) {d i : Nat} (hi : i < 4 * n) (hd : d ≤ D (i / 4)) {cs : List Nat} (hk : okP w (D (i / 4)) cs) : okP w d (cdD D i :: cs) := by
  have := h.1 (i / 4) (by omega)
  exact ⟨by rw [cd_div]; exact this.1, by rw [cd_div]; exact hd, by rw [cd_div]; omega, by rw [cd_div]; exact hk⟩
theorem lmin {w : Nat → Int} {n : Nat} {D : Nat → Nat} (h : isD w 100 n D) {d0 i : Nat} (hi : i < 4 * n) {r : List Nat} {Q : List Nat → Prop} (hb : ∀ i', i' < i → d0 ≤ D (i' / 4) → ∀ r', r'.length = r.length → okP w (D (i' / 4)) r' → Q (cdD D i' :: r')) (hm : ∀ r', r'.length = r.length → lexL r' r → okP w (D (i / 4)) r' → Q (cdD D i :: r')) : ∀ l', l'.length = r.length + 1 → lexL l' (cdD D i :: r) → okP w d0 l' → Q l' := by
  intro l' hl hx hk
  cases l' with
  | nil => exact absurd hl (by simp)
  | cons c cs =>
    obtain ⟨i', hi', e, hd, hk2⟩ := okP_cons h hk
    have hl2 : cs.length = r.length := by simpa using hl
    rcases hx with hx | ⟨hx, hx2⟩
    · rw [← e] at hx
      rw [← e]
      exact hb i' (cd_lt h hi' hi hx) hd cs hl2 hk2
    · have : D (i' / 4) = D (i / 4) := by rw [← cd_div (D := D) (i := i'), ← cd_div (D := D) (i := i), e, hx]
      rw [this] at hk2
      rw [hx]
      exact hm cs hl2 hx2 hk2
