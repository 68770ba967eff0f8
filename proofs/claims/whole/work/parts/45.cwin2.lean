/-- the windows found up to the date s -/
def wSt (F : Nat → Bool) (s n : Nat) (A B : Nat → Int) : Prop := n = sN F s ∧ ∀ j, j < n → (∃ a, a < s ∧ sta F a = true ∧ sN F a = j ∧ A j = (a : Int)) ∧ ∃ b, b < s ∧ F b = true ∧ sN F (b + 1) = j + 1 ∧ (b + 1 = s ∨ ¬ F (b + 1) = true) ∧ B j = (b : Int)
theorem sN_flat {F : Nat → Bool} {s : Nat} : ∀ e, s ≤ e → (∀ i, s ≤ i → i < e → ¬ F i = true) → sN F e = sN F s
  | 0, h, _ => by rw [show s = 0 by omega]
  | e + 1, h, hf => by
    by_cases c : s = e + 1
    · rw [c]
    · rw [sN_step, if_neg (fun z => hf e (by omega) (by omega) z.1), sN_flat e (by omega) (fun i h1 h2 => hf i h1 (by omega)), Nat.add_zero]
theorem sN_run {F : Nat → Bool} {s : Nat} : ∀ e, s + 1 ≤ e → (∀ i, s ≤ i → i < e → F i = true) → sN F e = sN F (s + 1)
  | 0, h, _ => absurd h (by omega)
  | e + 1, h, hf => by
    by_cases c : s = e
    · rw [c]
    · have hb : hadB F e = true := by
        obtain ⟨e', rfl⟩ : ∃ e', e = e' + 1 := ⟨e - 1, by omega⟩
        rw [hadB_s]
        exact hf e' (by omega) (by omega)
      rw [sN_step, if_neg (fun z => z.2 hb), sN_run e (by omega) (fun i h1 h2 => hf i h1 (by omega)), Nat.add_zero]
theorem wSt_had {F : Nat → Bool} {s n : Nat} {A B : Nat → Int} (h : wSt F s n A B) : (0 < n ∧ B (n - 1) = (s : Int) - 1) ↔ hadB F s = true := by
  obtain ⟨h1, h2⟩ := h
  constructor
  · rintro ⟨q1, q2⟩
    obtain ⟨b, b1, b2, b3, b4, b5⟩ := (h2 (n - 1) (by omega)).2
    have e : s = b + 1 := by omega
    rw [e, hadB_s]
    exact b2
  · intro q
    obtain ⟨a, a1, a2, a3, a4⟩ := run_back s q
    have hn : 0 < n := by omega
    obtain ⟨b, b1, b2, b3, b4, b5⟩ := (h2 (n - 1) (by omega)).2
    refine ⟨hn, ?_⟩
    have hab : a ≤ b := by
      by_cases c : b + 1 ≤ a
      · have := sN_mono (F := F) c
        omega
      · omega
    rcases b4 with b4 | b4
    · omega
    · by_cases c : b + 1 < s
      · exact absurd (a4 (b + 1) (by omega) c) b4
      · omega
theorem wSt_no {F : Nat → Bool} {s e n : Nat} {A B : Nat → Int} (h : wSt F s n A B) (he : s ≤ e) (hf : ∀ i, s ≤ i → i < e → ¬ F i = true) : wSt F e n A B := by
  obtain ⟨h1, h2⟩ := h
  refine ⟨by rw [sN_flat e he hf]; exact h1, fun j hj => ?_⟩
  obtain ⟨⟨a, a1, a2, a3, a4⟩, b, b1, b2, b3, b4, b5⟩ := h2 j hj
  refine ⟨⟨a, by omega, a2, a3, a4⟩, b, by omega, b2, b3, ?_, b5⟩
  rcases b4 with b4 | b4
  · by_cases c : s = e
    · exact Or.inl (by omega)
    · exact Or.inr (by rw [b4]; exact hf s (Nat.le_refl _) (by omega))
  · exact Or.inr b4
theorem wSt_ext {F : Nat → Bool} {s e n : Nat} {A B : Nat → Int} (h : wSt F s n A B) (hh : hadB F s = true) (he : s < e) (hf : ∀ i, s ≤ i → i < e → F i = true) : wSt F e n A (va_up B (n - 1) ((e : Int) - 1)) ∧ 0 < n := by
  have hq := (wSt_had h).mpr hh
  obtain ⟨h1, h2⟩ := h
  have e1 : sN F e = n := by rw [sN_run e (by omega) hf, sN_step, if_neg (fun z => z.2 hh), Nat.add_zero]; exact h1.symm
  refine ⟨⟨e1.symm, fun j hj => ?_⟩, hq.1⟩
  obtain ⟨⟨a, a1, a2, a3, a4⟩, b, b1, b2, b3, b4, b5⟩ := h2 j hj
  refine ⟨⟨a, by omega, a2, a3, a4⟩, ?_⟩
  by_cases c : j = n - 1
  · refine ⟨e - 1, by omega, hf (e - 1) (by omega) (by omega), by rw [show e - 1 + 1 = e by omega]; omega, Or.inl (by omega), by rw [c, vu_same]; omega⟩
  · refine ⟨b, by omega, b2, b3, ?_, by rw [vu_ne c]; exact b5⟩
    rcases b4 with b4 | b4
    · rw [b4] at b3
      omega
    · exact Or.inr b4
theorem wSt_new {F : Nat → Bool} {s e n : Nat} {A B : Nat → Int} (h : wSt F s n A B) (hh : ¬ hadB F s = true) (he : s < e) (hf : ∀ i, s ≤ i → i < e → F i = true) : wSt F e (n + 1) (va_up A n (s : Int)) (va_up B n ((e : Int) - 1)) := by
  obtain ⟨h1, h2⟩ := h
  have hs : sta F s = true := sta_iff.mpr ⟨hf s (Nat.le_refl _) he, hh⟩
  have e1 : sN F e = n + 1 := by rw [sN_run e (by omega) hf, sN_step, if_pos ⟨hf s (Nat.le_refl _) he, hh⟩, ← h1]
  refine ⟨e1.symm, fun j hj => ?_⟩
  by_cases c : j = n
  · refine ⟨⟨s, he, hs, by rw [c]; exact h1.symm, by rw [c, vu_same]⟩, e - 1, by omega, hf (e - 1) (by omega) (by omega), by rw [show e - 1 + 1 = e by omega]; omega, Or.inl (by omega), by rw [c, vu_same]; omega⟩
  · obtain ⟨⟨a, a1, a2, a3, a4⟩, b, b1, b2, b3, b4, b5⟩ := h2 j (by omega)
    refine ⟨⟨a, by omega, a2, a3, by rw [vu_ne c]; exact a4⟩, b, by omega, b2, b3, ?_, by rw [vu_ne c]; exact b5⟩
    rcases b4 with b4 | b4
    · by_cases z : s = 0
      · omega
      · have : hadB F s = true := by rw [← b4, hadB_s]; exact b2
        exact absurd this hh
    · exact Or.inr b4
/-- at the end -/
theorem wSt_end {F : Nat → Bool} {n : Nat} {A B : Nat → Int} (h : wSt F 100 n A B) (hF : F 100 = false) : n = sN F 100 ∧ (∀ j, j < n → A j = winB F j ∧ B j = winE F j) ∧ (0 < n → B (n - 1) = lstF F) := by
  obtain ⟨h1, h2⟩ := h
  refine ⟨h1, fun j hj => ?_, fun hn => ?_⟩
  · obtain ⟨⟨a, a1, a2, a3, a4⟩, b, b1, b2, b3, b4, b5⟩ := h2 j hj
    refine ⟨by rw [a4, ← a3, winB_at a1 a2], ?_⟩
    rw [b5, winE_at b1 ⟨b2, ?_⟩ b3]
    rcases b4 with b4 | b4
    · rw [b4, hF]; decide
    · exact b4
  · obtain ⟨-, b, b1, b2, b3, b4, b5⟩ := h2 (n - 1) (by omega)
    rw [b5]
    refine (lstF_at b1 b2 (fun c hc1 hc2 hc => ?_)).symm
    have nb : ¬ F (b + 1) = true := by
      rcases b4 with b4 | b4
      · rw [b4, hF]; decide
      · exact b4
    -- a run that ends behind b begins behind b
    have hh : hadB F (c + 1) = true := by rw [hadB_s]; exact hc
    obtain ⟨a, a1, a2, a3, a4⟩ := run_back (c + 1) hh
    have : b + 1 < a := by
      by_cases z : b + 1 < a
      · exact z
      · exact absurd (a4 (b + 1) (by omega) (by omega)) nb
    have m1 := sN_mono (F := F) (show b + 1 ≤ a by omega)
    have m2 := sN_mono (F := F) (show c + 1 ≤ 100 by omega)
    omega
