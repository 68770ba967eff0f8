/-! the rows that acts make are worlds again -/
theorem nat_toNat {n : Nat} {i : Int} (h : i = (n : Int)) : i.toNat = n := by omega
theorem lw_ins {R : Nat → Int} {n p k j : Nat} {f : Nat → Int} (hp : p ≤ n) (hk : k ≤ n) (hj : j < 6) : lw (insW R n p f) k j = if k < p then lw R k j else if k = p then f j else lw R (k - 1) j := by
  unfold lw
  rw [insW_app, if_neg (by omega), shL_app]
  by_cases c : k < p
  · rw [if_pos c, if_neg (by omega), if_neg (by omega)]
  · rw [if_neg c]
    by_cases c2 : k = p
    · rw [if_pos c2, if_pos (by omega), show 2 + 6 * k + j - (2 + 6 * p) = j by omega]
    · rw [if_neg c2, if_neg (by omega), if_pos (by omega), show 2 + 6 * k + j - 6 = 2 + 6 * (k - 1) + j by omega]
theorem ins_out {R : Nat → Int} {n p j : Nat} {f : Nat → Int} (hp : p ≤ n) (hn : n ≤ 15) (hj : j = 1 ∨ 98 ≤ j) : insW R n p f j = R j := by
  rw [insW_app, if_neg (by omega), if_neg (by omega), shL_app, if_neg (by omega)]
theorem ins_0 {R : Nat → Int} {n p : Nat} {f : Nat → Int} : insW R n p f 0 = R 0 + 1 := by rw [insW_app, if_pos rfl]
theorem posL_ge {w : Nat → Int} {t d : Int} : ∀ n i, posL w t d n ≤ i → i < n → d < lw w i 1 ∨ (lw w i 1 = d ∧ t < lw w i 0)
  | 0, i, _, h => absurd h (by omega)
  | n + 1, i, h1, h2 => by
    unfold posL at h1
    by_cases c : d < lw w n 1 ∨ (lw w n 1 = d ∧ t < lw w n 0)
    · by_cases e : i = n
      · rw [e]; exact c
      · rw [if_pos c] at h1
        exact posL_ge n i h1 (by omega)
    · rw [if_neg c] at h1
      omega
theorem posL_lt {w : Nat → Int} {t d : Int} : ∀ n q, posL w t d n = q + 1 → ¬ (d < lw w q 1 ∨ (lw w q 1 = d ∧ t < lw w q 0)) ∧ q < n
  | 0, q, h => absurd h (by unfold posL; omega)
  | n + 1, q, h => by
    unfold posL at h
    by_cases c : d < lw w n 1 ∨ (lw w n 1 = d ∧ t < lw w n 0)
    · rw [if_pos c] at h
      obtain ⟨a, b⟩ := posL_lt n q h
      exact ⟨a, by omega⟩
    · rw [if_neg c] at h
      rw [show q = n by omega]
      exact ⟨c, by omega⟩
theorem hasL_iff {w : Nat → Int} {t d : Int} : ∀ n, hasL w t d n = true ↔ ∃ i, i < n ∧ lw w i 0 = t ∧ lw w i 1 = d
  | 0 => ⟨fun h => absurd h (by unfold hasL; decide), fun ⟨i, hi, _⟩ => absurd hi (by omega)⟩
  | n + 1 => by
    unfold hasL
    rw [Bool.or_eq_true, hasL_iff n, decide_eq_true_iff]
    constructor
    · rintro (⟨i, hi, q⟩ | q)
      · exact ⟨i, by omega, q⟩
      · exact ⟨n, by omega, q⟩
    · rintro ⟨i, hi, q⟩
      by_cases e : i = n
      · subst e; exact Or.inr q
      · exact Or.inl ⟨i, by omega, q⟩
theorem hasL_ins {W : Nat → Int} {n p : Nat} {f : Nat → Int} (hp : p ≤ n) {t d : Int} : hasL (insW W n p f) t d (n + 1) = true ↔ hasL W t d n = true ∨ (f 0 = t ∧ f 1 = d) := by
  rw [hasL_iff, hasL_iff]
  constructor
  · rintro ⟨i, hi, q⟩
    rw [lw_ins hp (by omega) (by decide), lw_ins hp (by omega) (by decide)] at q
    by_cases c : i < p
    · rw [if_pos c, if_pos c] at q
      exact Or.inl ⟨i, by omega, q⟩
    · rw [if_neg c, if_neg c] at q
      by_cases c2 : i = p
      · rw [if_pos c2, if_pos c2] at q
        exact Or.inr q
      · rw [if_neg c2, if_neg c2] at q
        exact Or.inl ⟨i - 1, by omega, q⟩
  · rintro (⟨i, hi, q⟩ | q)
    · by_cases c : i < p
      · refine ⟨i, by omega, ?_⟩
        rw [lw_ins hp (by omega) (by decide), lw_ins hp (by omega) (by decide), if_pos c, if_pos c]
        exact q
      · refine ⟨i + 1, by omega, ?_⟩
        rw [lw_ins hp (by omega) (by decide), lw_ins hp (by omega) (by decide), if_neg (by omega), if_neg (by omega), if_neg (by omega), if_neg (by omega)]
        exact q
    · refine ⟨p, by omega, ?_⟩
      rw [lw_ins hp hp (by decide), lw_ins hp hp (by decide)]
      simp only [Nat.lt_irrefl, if_false, if_true]
      exact q
theorem lo_out {R R' : Nat → Int} (h : ∀ j, 98 ≤ j → R' j = R j) {k j : Nat} : lo R' k j = lo R k j := h _ (by omega)
theorem loanV_eq {R R' : Nat → Int} {k k' : Nat} (h : ∀ j, lo R' k' j = lo R k j) (hv : loanV R k) : loanV R' k' := by
  unfold loanV at hv ⊢
  rw [h 0, h 1, h 2, h 3]
  obtain ⟨g1, g2, g3, g4, g5, g6, g7⟩ := hv
  exact ⟨g1, g2, g3, g4, g5, fun i hi => by rw [h]; exact g6 i hi, fun i hi => by rw [h]; exact g7 i hi⟩
theorem wV_ins {W : Nat → Int} {t d x y e z : Int} (hw : wV W) (hn : nl W ≤ 15) (hl : lawV t d x y e (if e = 0 then -1 else z)) (hh : ¬ hasL W t d (nl W) = true) : wV (insW W (nl W) (posL W t d (nl W)) (lfs t d x y e z)) ∧ nl (insW W (nl W) (posL W t d (nl W)) (lfs t d x y e z)) = nl W + 1 ∧ no (insW W (nl W) (posL W t d (nl W)) (lfs t d x y e z)) = no W := by
  obtain ⟨p, hp⟩ : ∃ p, p = posL W t d (nl W) := ⟨_, rfl⟩
  obtain ⟨n, hnn⟩ : ∃ n, n = nl W := ⟨_, rfl⟩
  have hpn : p ≤ n := by rw [hp, hnn]; exact posL_le _ _ _ _
  have p1 : ∀ i, p ≤ i → i < n → d < lw W i 1 ∨ (lw W i 1 = d ∧ t < lw W i 0) := by rw [hp, hnn]; exact posL_ge _
  have p2 : ∀ q, p = q + 1 → ¬ (d < lw W q 1 ∨ (lw W q 1 = d ∧ t < lw W q 0)) ∧ q < n := by rw [hp, hnn]; exact posL_lt _
  have hh : ∀ i, i < n → ¬ (lw W i 0 = t ∧ lw W i 1 = d) := by
    rw [hasL_iff] at hh
    intro i hi q
    exact hh ⟨i, by omega, q⟩
  obtain ⟨n1, n2⟩ := hw.nlw
  rw [← hp, ← hnn]
  rw [← hnn] at hn n1 n2
  obtain ⟨h1, h2, h3, h4, h5⟩ := hw
  rw [← hnn] at h2 h3
  have hl' : nl (insW W n p (lfs t d x y e z)) = n + 1 := by unfold nl; rw [ins_0]; omega
  have ho' : no (insW W n p (lfs t d x y e z)) = no W := by unfold no; rw [ins_out hpn hn (Or.inl rfl)]
  refine ⟨⟨⟨by rw [ins_0]; omega, by rw [ins_out hpn hn (Or.inl rfl)]; exact h1.2⟩, fun k hk => ?_, fun k hk => ?_, fun q hq => ?_, fun k hk => ?_⟩, hl', ho'⟩
  · rw [hl'] at hk
    rw [lw_ins hpn (by omega) (by decide), lw_ins hpn (by omega) (by decide), lw_ins hpn (by omega) (by decide), lw_ins hpn (by omega) (by decide), lw_ins hpn (by omega) (by decide), lw_ins hpn (by omega) (by decide)]
    by_cases c : k < p
    · simp only [if_pos c]; exact h2 k (by omega)
    · simp only [if_neg c]
      by_cases c2 : k = p
      · simp only [if_pos c2]; exact hl
      · simp only [if_neg c2]; exact h2 (k - 1) (by omega)
  · rw [hl'] at hk
    rw [lw_ins hpn (by omega) (by decide), lw_ins hpn (by omega) (by decide), lw_ins hpn (by omega) (by decide), lw_ins hpn (by omega) (by decide)]
    by_cases c : k + 1 < p
    · simp only [if_pos c, if_pos (show k < p by omega)]; exact h3 k (by omega)
    · by_cases c2 : k + 1 = p
      · simp only [if_neg c, if_pos (show k < p by omega), if_pos c2]
        have := (p2 k c2.symm).1
        have := hh k (by omega)
        show lw W k 1 < d ∨ (lw W k 1 = d ∧ lw W k 0 < t)
        omega
      · simp only [if_neg c, if_neg c2, if_neg (show ¬ k < p by omega)]
        by_cases c3 : k = p
        · simp only [if_pos c3]
          have := p1 (k + 1 - 1) (by omega) (by omega)
          show d < lw W (k + 1 - 1) 1 ∨ (d = lw W (k + 1 - 1) 1 ∧ t < lw W (k + 1 - 1) 0)
          omega
        · simp only [if_neg c3]
          have := h3 (k - 1) (by omega)
          rw [show k - 1 + 1 = k + 1 - 1 by omega] at this
          exact this
  · rw [ins_out hpn hn (Or.inr (by omega)), ins_out hpn hn (Or.inr (by omega))]
    exact h4 q hq
  · rw [ho'] at hk
    exact loanV_eq (fun j => lo_out (fun j hj => ins_out hpn hn (Or.inr hj))) (h5 k hk)
theorem wV_set {W : Nat → Int} {f t a b : Int} (hw : wV W) (hf : 0 ≤ f ∧ f ≤ 3) (ht : 0 ≤ t ∧ t ≤ 3) (hm : meetV a b) : wV (setM W f t a b) ∧ nl (setM W f t a b) = nl W ∧ no (setM W f t a b) = no W := by
  have hx : ∀ j, j ≠ 98 + 2 * (4 * f.toNat + t.toNat) → j ≠ 98 + 2 * (4 * f.toNat + t.toNat) + 1 → setM W f t a b j = W j := fun j h1 h2 => by unfold setM; rw [vu_ne h2, vu_ne h1]
  have e0 : nl (setM W f t a b) = nl W := by unfold nl; rw [hx _ (by omega) (by omega)]
  have e1 : no (setM W f t a b) = no W := by unfold no; rw [hx _ (by omega) (by omega)]
  have hn := hw.nlw.2
  obtain ⟨h1, h2, h3, h4, h5⟩ := hw
  have hlw : ∀ k j, k < 16 → j < 6 → lw (setM W f t a b) k j = lw W k j := fun k j hk hj => hx _ (by omega) (by omega)
  refine ⟨⟨⟨by rw [hx _ (by omega) (by omega)]; exact h1.1, by rw [hx _ (by omega) (by omega)]; exact h1.2⟩, fun k hk => ?_, fun k hk => ?_, fun q hq => ?_, fun k hk => ?_⟩, e0, e1⟩
  · rw [e0] at hk
    rw [hlw k 0 (by omega) (by decide), hlw k 1 (by omega) (by decide), hlw k 2 (by omega) (by decide), hlw k 3 (by omega) (by decide), hlw k 4 (by omega) (by decide), hlw k 5 (by omega) (by decide)]
    exact h2 k hk
  · rw [e0] at hk
    rw [hlw k 0 (by omega) (by decide), hlw k 1 (by omega) (by decide), hlw (k + 1) 0 (by omega) (by decide), hlw (k + 1) 1 (by omega) (by decide)]
    exact h3 k hk
  · by_cases c : q = 4 * f.toNat + t.toNat
    · have z1 : setM W f t a b (98 + 2 * q) = a := by unfold setM; rw [c, vu_ne (by omega), vu_same]
      have z2 : setM W f t a b (98 + 2 * q + 1) = b := by unfold setM; rw [c, vu_same]
      rw [z1, z2]
      exact hm
    · rw [hx _ (by omega) (by omega), hx _ (by omega) (by omega)]
      exact h4 q hq
  · rw [e1] at hk
    exact loanV_eq (fun j => hx _ (by omega) (by omega)) (h5 k hk)
theorem wV_all {W : Nat → Int} : wV (allW W) ∧ nl (allW W) = 0 ∧ no (allW W) = 0 := by
  have z : ∀ j, (j = 0 ∨ j = 1 ∨ (98 ≤ j ∧ j < 130)) → allW W j = 0 := fun j h => if_pos h
  have e0 : nl (allW W) = 0 := by unfold nl; rw [z 0 (Or.inl rfl)]; rfl
  have e1 : no (allW W) = 0 := by unfold no; rw [z 1 (Or.inr (Or.inl rfl))]; rfl
  refine ⟨⟨⟨by rw [z 0 (Or.inl rfl)]; omega, by rw [z 1 (Or.inr (Or.inl rfl))]; omega⟩, fun k hk => absurd hk (by omega), fun k hk => absurd hk (by omega), fun q hq => ?_, fun k hk => absurd hk (by omega)⟩, e0, e1⟩
  rw [z _ (Or.inr (Or.inr (by omega))), z _ (Or.inr (Or.inr (by omega)))]
  exact Or.inl ⟨rfl, rfl⟩
theorem del_app {R : Nat → Int} {k j : Nat} : delW R k j = if j = 0 then R 0 - 1 else if 2 + 6 * k ≤ j ∧ (j : Int) < 2 + 6 * (R 0 - 1) then R (j + 6) else R j := rfl
theorem lw_del {R : Nat → Int} {n k i j : Nat} (hn : R 0 = (n : Int)) (hk : k < n) (hi : i + 1 < n) (hj : j < 6) : lw (delW R k) i j = if i < k then lw R i j else lw R (i + 1) j := by
  unfold lw
  rw [del_app, if_neg (by omega)]
  by_cases c : i < k
  · rw [if_pos c, if_neg (by omega)]
  · rw [if_neg c, if_pos (by omega), show 2 + 6 * i + j + 6 = 2 + 6 * (i + 1) + j by omega]
theorem wV_del {W : Nat → Int} {k : Nat} (hw : wV W) (hk : k < nl W) : wV (delW W k) ∧ nl (delW W k) = nl W - 1 ∧ no (delW W k) = no W := by
  obtain ⟨n1, n2⟩ := hw.nlw
  obtain ⟨n, hnn⟩ : ∃ n, n = nl W := ⟨_, rfl⟩
  rw [← hnn] at hk n1 n2 ⊢
  obtain ⟨h1, h2, h3, h4, h5⟩ := hw
  rw [← hnn] at h2 h3
  have e0 : nl (delW W k) = n - 1 := by unfold nl; rw [del_app, if_pos rfl]; omega
  have out : ∀ j, j = 1 ∨ 98 ≤ j → delW W k j = W j := fun j hj => by rw [del_app, if_neg (by omega), if_neg (by omega)]
  have e1 : no (delW W k) = no W := by unfold no; rw [out _ (Or.inl rfl)]
  refine ⟨⟨⟨by rw [del_app, if_pos rfl]; omega, by rw [out _ (Or.inl rfl)]; exact h1.2⟩, fun i hi => ?_, fun i hi => ?_, fun q hq => ?_, fun i hi => ?_⟩, e0, e1⟩
  · rw [e0] at hi
    rw [lw_del n1.symm hk (by omega) (by decide), lw_del n1.symm hk (by omega) (by decide), lw_del n1.symm hk (by omega) (by decide), lw_del n1.symm hk (by omega) (by decide), lw_del n1.symm hk (by omega) (by decide), lw_del n1.symm hk (by omega) (by decide)]
    by_cases c : i < k
    · simp only [if_pos c]; exact h2 i (by omega)
    · simp only [if_neg c]; exact h2 (i + 1) (by omega)
  · rw [e0] at hi
    rw [lw_del n1.symm hk (by omega) (by decide), lw_del n1.symm hk (by omega) (by decide), lw_del n1.symm hk (by omega) (by decide), lw_del n1.symm hk (by omega) (by decide)]
    by_cases c : i + 1 < k
    · simp only [if_pos c, if_pos (show i < k by omega)]; exact h3 i (by omega)
    · by_cases c2 : i < k
      · simp only [if_pos c2, if_neg c]
        have := h3 i (by omega)
        have := h3 (i + 1) (by omega)
        omega
      · simp only [if_neg c2, if_neg c]; exact h3 (i + 1) (by omega)
  · rw [out _ (Or.inr (by omega)), out _ (Or.inr (by omega))]
    exact h4 q hq
  · rw [e1] at hi
    exact loanV_eq (fun j => lo_out (fun j hj => out j (Or.inr hj))) (h5 i hi)
theorem delO_app {R : Nat → Int} {k j : Nat} : delO R k j = if j = 1 then R 1 - 1 else if 130 + 22 * k ≤ j ∧ (j : Int) < 130 + 22 * (R 1 - 1) then R (j + 22) else R j := rfl
theorem lo_delO {R : Nat → Int} {n k i j : Nat} (hn : R 1 = (n : Int)) (hk : k < n) (hi : i + 1 < n) (hj : j < 22) : lo (delO R k) i j = if i < k then lo R i j else lo R (i + 1) j := by
  unfold lo
  rw [delO_app, if_neg (by omega)]
  by_cases c : i < k
  · rw [if_pos c, if_neg (by omega)]
  · rw [if_neg c, if_pos (by omega), show 130 + 22 * i + j + 22 = 130 + 22 * (i + 1) + j by omega]
theorem loanV_eq2 {R R' : Nat → Int} {k k' : Nat} (h : ∀ j, j < 22 → lo R' k' j = lo R k j) (hv : loanV R k) : loanV R' k' := by
  unfold loanV at hv ⊢
  rw [h 0 (by decide), h 1 (by decide), h 2 (by decide), h 3 (by decide)]
  obtain ⟨g1, g2, g3, g4, g5, g6, g7⟩ := hv
  exact ⟨g1, g2, g3, g4, g5, fun i hi => by rw [h _ (by omega)]; exact g6 i hi, fun i hi => by rw [h _ (by omega)]; exact g7 i hi⟩
/-- a row that differs only in the loans -/
theorem wV_lo {W W' : Nat → Int} (hw : wV W) (h : ∀ j, j ≠ 1 → j < 130 → W' j = W j) (h1 : 0 ≤ W' 1 ∧ W' 1 ≤ 12) (hL : ∀ k, k < no W' → loanV W' k) : wV W' ∧ nl W' = nl W := by
  have hn := hw.nlw.2
  have e0 : nl W' = nl W := by unfold nl; rw [h 0 (by decide) (by decide)]
  have z : ∀ k j, k < 16 → j < 6 → lw W' k j = lw W k j := fun k j hk hj => h _ (by omega) (by omega)
  obtain ⟨g1, g2, g3, g4, g5⟩ := hw
  refine ⟨⟨⟨by rw [h 0 (by decide) (by decide)]; exact g1.1, h1⟩, fun k hk => ?_, fun k hk => ?_, fun q hq => ?_, hL⟩, e0⟩
  · rw [e0] at hk
    rw [z k 0 (by omega) (by decide), z k 1 (by omega) (by decide), z k 2 (by omega) (by decide), z k 3 (by omega) (by decide), z k 4 (by omega) (by decide), z k 5 (by omega) (by decide)]
    exact g2 k hk
  · rw [e0] at hk
    rw [z k 0 (by omega) (by decide), z k 1 (by omega) (by decide), z (k + 1) 0 (by omega) (by decide), z (k + 1) 1 (by omega) (by decide)]
    exact g3 k hk
  · rw [h _ (by omega) (by omega), h _ (by omega) (by omega)]
    exact g4 q hq
theorem wV_delO {W : Nat → Int} {k : Nat} (hw : wV W) (hk : k < no W) : wV (delO W k) ∧ nl (delO W k) = nl W ∧ no (delO W k) = no W - 1 := by
  obtain ⟨n1, n2⟩ := hw.now
  have e1 : no (delO W k) = no W - 1 := by unfold no at hk ⊢; rw [delO_app, if_pos rfl]; omega
  have := wV_lo (W' := delO W k) hw (fun j h1 h2 => by rw [delO_app, if_neg h1, if_neg (by omega)]) (by rw [delO_app, if_pos rfl]; omega) (fun i hi => by
    rw [e1] at hi
    by_cases c : i < k
    · exact loanV_eq2 (k := i) (fun j hj => by rw [lo_delO n1.symm hk (by omega) hj, if_pos c]) (hw.2.2.2.2 i (by omega))
    · exact loanV_eq2 (k := i + 1) (fun j hj => by rw [lo_delO n1.symm hk (by omega) hj, if_neg c]) (hw.2.2.2.2 (i + 1) (by omega)))
  exact ⟨this.1, this.2, e1⟩
theorem lndW_lo {R : Nat → Int} {k i : Nat} {f t : Int} {l : List Int} (hi : i < no R) {j : Nat} (hj : j < 22) : lo (lndW R k f t l) i j = lo R i j := by
  unfold lo
  rw [lndW_app, if_neg (by omega), if_neg (by omega), if_neg (by omega), if_neg (by omega), if_neg (by omega), if_neg (by omega)]
theorem lndW_0 {R : Nat → Int} {k : Nat} {f t : Int} {l : List Int} : lo (lndW R k f t l) (no R) 0 = f := by
  unfold lo
  rw [lndW_app, if_neg (by omega), if_pos (by omega)]
theorem lndW_1 {R : Nat → Int} {k : Nat} {f t : Int} {l : List Int} : lo (lndW R k f t l) (no R) 1 = t := by
  unfold lo
  rw [lndW_app, if_neg (by omega), if_neg (by omega), if_pos (by omega)]
theorem lndW_3 {R : Nat → Int} {k : Nat} {f t : Int} {l : List Int} : lo (lndW R k f t l) (no R) 3 = (l.length : Int) := by
  unfold lo
  rw [lndW_app, if_neg (by omega), if_neg (by omega), if_neg (by omega), if_pos (by omega)]
theorem lndW_w {R : Nat → Int} {k : Nat} {f t : Int} {l : List Int} {j : Nat} (hj : 2 ≤ j ∧ j < 12) (h3 : j ≠ 3) : lo (lndW R k f t l) (no R) j = lo R k j := by
  unfold lo
  rw [lndW_app, if_neg (by omega), if_neg (by omega), if_neg (by omega), if_neg (by omega), if_pos (by omega), show 130 + 22 * no R + j - (130 + 22 * no R) = j by omega]
theorem lndW_e {R : Nat → Int} {k : Nat} {f t : Int} {l : List Int} {j : Nat} (hj : j < l.length) : lo (lndW R k f t l) (no R) (12 + j) = l.getD j 0 := by
  unfold lo
  rw [lndW_app, if_neg (by omega), if_neg (by omega), if_neg (by omega), if_neg (by omega), if_neg (by omega), if_pos (by omega), show 130 + 22 * no R + (12 + j) - (130 + 22 * no R + 12) = j by omega]
theorem wV_lnd {W : Nat → Int} {k : Nat} {f t : Int} {l : List Int} (hw : wV W) (hk : k < no W) (hn : no W ≤ 11) (hf : tg f) (ht : tg t) (hft : f ≠ t) (hl : fV l) : wV (lndW W k f t l) ∧ nl (lndW W k f t l) = nl W ∧ no (lndW W k f t l) = no W + 1 := by
  obtain ⟨n1, n2⟩ := hw.now
  have e1 : no (lndW W k f t l) = no W + 1 := by
    have : lndW W k f t l 1 = W 1 + 1 := by rw [lndW_app, if_pos rfl]
    have h : no (lndW W k f t l) = (lndW W k f t l 1).toNat := rfl
    rw [h, this]
    omega
  have := wV_lo (W' := lndW W k f t l) hw (fun j h1 h2 => by rw [lndW_app, if_neg h1, if_neg (by omega), if_neg (by omega), if_neg (by omega), if_neg (by omega), if_neg (by omega)]) (by rw [lndW_app, if_pos rfl]; omega) (fun i hi => by
    rw [e1] at hi
    by_cases c : i < no W
    · exact loanV_eq2 (k := i) (fun j hj => lndW_lo c hj) (hw.2.2.2.2 i c)
    · rw [show i = no W by omega]
      obtain ⟨g1, g2, g3, g4, g5, g6, g7⟩ := hw.2.2.2.2 k hk
      have w2 : lo (lndW W k f t l) (no W) 2 = lo W k 2 := lndW_w ⟨by decide, by decide⟩ (by decide)
      unfold loanV
      rw [lndW_0, lndW_1, w2, lndW_3]
      refine ⟨hf, ht, hft, g4, by have := hl.1; omega, fun i hi => ?_, fun i hi => ?_⟩
      · rw [lndW_w (by omega) (by omega)]
        exact g6 i hi
      · rw [lndW_e (by omega)]
        exact hl.2 i (by omega))
  exact ⟨this.1, this.2, e1⟩
theorem lonW_app {R T : Nat → Int} {f t : Int} {p n q r j : Nat} : lonW R T f t p n q r j = if j = 1 then R 1 + 1 else if j = 130 + 22 * no R then f else if j = 130 + 22 * no R + 1 then t else if j = 130 + 22 * no R + 2 then (n : Int) else if j = 130 + 22 * no R + 3 then (r : Int) else if 130 + 22 * no R + 4 ≤ j ∧ j < 130 + 22 * no R + 4 + n then T (p + (j - (130 + 22 * no R + 4))) - 97 else if 130 + 22 * no R + 12 ≤ j ∧ j < 130 + 22 * no R + 12 + r then T (q + (j - (130 + 22 * no R + 12))) - 97 else R j := rfl
theorem lonW_lo {R T : Nat → Int} {f t : Int} {p n q r i : Nat} (hi : i < no R) {j : Nat} (hj : j < 22) : lo (lonW R T f t p n q r) i j = lo R i j := by
  unfold lo
  rw [lonW_app, if_neg (by omega), if_neg (by omega), if_neg (by omega), if_neg (by omega), if_neg (by omega), if_neg (by omega), if_neg (by omega)]
theorem lonW_0 {R T : Nat → Int} {f t : Int} {p n q r : Nat} : lo (lonW R T f t p n q r) (no R) 0 = f := by
  unfold lo
  rw [lonW_app, if_neg (by omega), if_pos (by omega)]
theorem lonW_1 {R T : Nat → Int} {f t : Int} {p n q r : Nat} : lo (lonW R T f t p n q r) (no R) 1 = t := by
  unfold lo
  rw [lonW_app, if_neg (by omega), if_neg (by omega), if_pos (by omega)]
theorem lonW_2 {R T : Nat → Int} {f t : Int} {p n q r : Nat} : lo (lonW R T f t p n q r) (no R) 2 = (n : Int) := by
  unfold lo
  rw [lonW_app, if_neg (by omega), if_neg (by omega), if_neg (by omega), if_pos (by omega)]
theorem lonW_3 {R T : Nat → Int} {f t : Int} {p n q r : Nat} : lo (lonW R T f t p n q r) (no R) 3 = (r : Int) := by
  unfold lo
  rw [lonW_app, if_neg (by omega), if_neg (by omega), if_neg (by omega), if_neg (by omega), if_pos (by omega)]
theorem lonW_w {R T : Nat → Int} {f t : Int} {p n q r i : Nat} (hi : i < n) : lo (lonW R T f t p n q r) (no R) (4 + i) = T (p + i) - 97 := by
  unfold lo
  rw [lonW_app, if_neg (by omega), if_neg (by omega), if_neg (by omega), if_neg (by omega), if_neg (by omega), if_pos (by omega), show 130 + 22 * no R + (4 + i) - (130 + 22 * no R + 4) = i by omega]
theorem lonW_e {R T : Nat → Int} {f t : Int} {p n q r i : Nat} (hn : n ≤ 8) (hi : i < r) : lo (lonW R T f t p n q r) (no R) (12 + i) = T (q + i) - 97 := by
  unfold lo
  rw [lonW_app, if_neg (by omega), if_neg (by omega), if_neg (by omega), if_neg (by omega), if_neg (by omega), if_neg (by omega), if_pos (by omega), show 130 + 22 * no R + (12 + i) - (130 + 22 * no R + 12) = i by omega]
theorem wV_lon {W T : Nat → Int} {f t : Int} {p n q r : Nat} (hw : wV W) (hn : no W ≤ 11) (hf : tg f) (ht : tg t) (hft : f ≠ t) (h1 : 1 ≤ n ∧ n ≤ 8) (hr : r ≤ 10) (hp : ∀ i, i < n → 97 ≤ T (p + i) ∧ T (p + i) ≤ 122) (hq : ∀ i, i < r → 97 ≤ T (q + i) ∧ T (q + i) ≤ 122) : wV (lonW W T f t p n q r) ∧ nl (lonW W T f t p n q r) = nl W ∧ no (lonW W T f t p n q r) = no W + 1 := by
  obtain ⟨n1, n2⟩ := hw.now
  have e1 : no (lonW W T f t p n q r) = no W + 1 := by
    have : lonW W T f t p n q r 1 = W 1 + 1 := by rw [lonW_app, if_pos rfl]
    have h : no (lonW W T f t p n q r) = (lonW W T f t p n q r 1).toNat := rfl
    rw [h, this]
    omega
  have := wV_lo (W' := lonW W T f t p n q r) hw (fun j h1 h2 => by rw [lonW_app, if_neg h1, if_neg (by omega), if_neg (by omega), if_neg (by omega), if_neg (by omega), if_neg (by omega), if_neg (by omega)]) (by rw [lonW_app, if_pos rfl]; omega) (fun i hi => by
    rw [e1] at hi
    by_cases c : i < no W
    · exact loanV_eq2 (k := i) (fun j hj => lonW_lo c hj) (hw.2.2.2.2 i c)
    · rw [show i = no W by omega]
      unfold loanV
      rw [lonW_0, lonW_1, lonW_2, lonW_3]
      refine ⟨hf, ht, hft, by omega, by omega, fun i hi => ?_, fun i hi => ?_⟩
      · rw [lonW_w (by omega)]
        have := hp i (by omega)
        omega
      · rw [lonW_e h1.2 (by omega)]
        have := hq i (by omega)
        omega)
  exact ⟨this.1, this.2, e1⟩
