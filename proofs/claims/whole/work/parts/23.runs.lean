/-! dates that fit, and their windows -/
def sta (F : Nat → Bool) (i : Nat) : Bool := F i && (i == 0 || !F (i - 1))
def sN (F : Nat → Bool) : Nat → Nat
  | 0 => 0
  | n + 1 => sN F n + (if sta F n = true then 1 else 0)
/-- whether the date before fits -/
def hadB (F : Nat → Bool) (n : Nat) : Bool := decide (0 < n) && F (n - 1)
def fnd (p : Nat → Bool) : Int := match (List.range 100).find? p with
  | some a => (a : Int)
  | none => -1
def winB (F : Nat → Bool) (k : Nat) : Int := fnd (fun a => sta F a && (sN F a == k))
def winE (F : Nat → Bool) (k : Nat) : Int := fnd (fun b => F b && !F (b + 1) && (sN F (b + 1) == k + 1))
def lstF (F : Nat → Bool) : Int := fnd (fun b => F b && (List.range 100).all (fun c => decide (c ≤ b) || !F c))
theorem fnd_some {p : Nat → Bool} {a : Nat} (ha : a < 100) (hp : p a = true) (hu : ∀ b, b < 100 → p b = true → b = a) : fnd p = (a : Int) := by
  unfold fnd
  cases h : (List.range 100).find? p with
  | none =>
    have := List.find?_eq_none.mp h a (List.mem_range.mpr ha)
    exact absurd hp this
  | some b =>
    have h1 := List.find?_some h
    have h2 := List.mem_range.mp (List.mem_of_find?_eq_some h)
    rw [hu b h2 h1]
theorem fnd_none {p : Nat → Bool} (hp : ∀ a, a < 100 → ¬ p a = true) : fnd p = -1 := by
  unfold fnd
  have : (List.range 100).find? p = none := List.find?_eq_none.mpr (fun a ha => hp a (List.mem_range.mp ha))
  rw [this]
theorem fnd_cases (p : Nat → Bool) : (∃ a, a < 100 ∧ p a = true ∧ fnd p = (a : Int)) ∨ ((∀ a, a < 100 → ¬ p a = true) ∧ fnd p = -1) := by
  unfold fnd
  cases h : (List.range 100).find? p with
  | none => exact Or.inr ⟨fun a ha => List.find?_eq_none.mp h a (List.mem_range.mpr ha), rfl⟩
  | some b => exact Or.inl ⟨b, List.mem_range.mp (List.mem_of_find?_eq_some h), List.find?_some h, rfl⟩
theorem sN_mono {F : Nat → Bool} {a b : Nat} (h : a ≤ b) : sN F a ≤ sN F b := by
  obtain ⟨k, rfl⟩ : ∃ k, b = a + k := ⟨b - a, by omega⟩
  clear h
  induction k with
  | zero => exact Nat.le_refl _
  | succ k ih =>
    have : sN F (a + (k + 1)) = sN F (a + k) + (if sta F (a + k) = true then 1 else 0) := rfl
    omega
theorem sN_le (F : Nat → Bool) : ∀ n, sN F n ≤ n
  | 0 => Nat.le_refl _
  | n + 1 => by
    have := sN_le F n
    unfold sN
    split <;> omega
theorem sta_uniq {F : Nat → Bool} {a b : Nat} (ha : sta F a = true) (hb : sta F b = true) (h : sN F a = sN F b) : a = b := by
  have key : ∀ x y, sta F x = true → x < y → sN F x < sN F y := by
    intro x y hx hxy
    have h1 : sN F (x + 1) = sN F x + 1 := by
      show sN F x + _ = _
      rw [if_pos hx]
    have h2 := sN_mono (F := F) (show x + 1 ≤ y by omega)
    omega
  rcases Nat.lt_trichotomy a b with q | q | q
  · have := key a b ha q; omega
  · exact q
  · have := key b a hb q; omega
theorem sta_iff {F : Nat → Bool} {i : Nat} : sta F i = true ↔ F i = true ∧ ¬ hadB F i = true := by
  unfold sta hadB
  cases i with
  | zero => simp
  | succ i => simp
theorem sN_step {F : Nat → Bool} {n : Nat} : sN F (n + 1) = sN F n + (if F n = true ∧ ¬ hadB F n = true then 1 else 0) := by
  show sN F n + _ = _
  by_cases h : sta F n = true
  · rw [if_pos h, if_pos (sta_iff.mp h)]
  · rw [if_neg h, if_neg (fun z => h (sta_iff.mpr z))]
theorem hadB_s {F : Nat → Bool} {n : Nat} : hadB F (n + 1) = F n := by
  unfold hadB
  simp
theorem hadB_0 {F : Nat → Bool} : hadB F 0 = false := rfl
/-- the run that ends ahead of n -/
theorem run_back {F : Nat → Bool} : ∀ n, hadB F n = true → ∃ a, a < n ∧ sta F a = true ∧ sN F a + 1 = sN F n ∧ ∀ i, a ≤ i → i < n → F i = true
  | 0, h => by rw [hadB_0] at h; cases h
  | n + 1, h => by
    rw [hadB_s] at h
    by_cases hn : hadB F n = true
    · obtain ⟨a, h1, h2, h3, h4⟩ := run_back n hn
      refine ⟨a, by omega, h2, ?_, fun i hi hin => ?_⟩
      · rw [sN_step, if_neg (fun z => z.2 hn)]
        omega
      · by_cases e : i = n
        · rw [e]; exact h
        · exact h4 i hi (by omega)
    · refine ⟨n, by omega, sta_iff.mpr ⟨h, hn⟩, ?_, fun i hi hin => ?_⟩
      · rw [sN_step, if_pos ⟨h, hn⟩]
      · rw [show i = n by omega]; exact h
/-- runs ahead of n that have ended -/
def eN (F : Nat → Bool) (n : Nat) : Nat := sN F n - (if hadB F n = true then 1 else 0)
theorem eN_had {F : Nat → Bool} {n : Nat} (h : hadB F n = true) : eN F n + 1 = sN F n := by
  unfold eN
  rw [if_pos h]
  obtain ⟨a, _, _, h3, _⟩ := run_back n h
  omega
theorem eN_not {F : Nat → Bool} {n : Nat} (h : ¬ hadB F n = true) : eN F n = sN F n := by
  unfold eN
  rw [if_neg h]
  omega
theorem eN_step {F : Nat → Bool} {n : Nat} : eN F (n + 1) = eN F n + (if hadB F n = true ∧ ¬ F n = true then 1 else 0) := by
  by_cases h1 : hadB F n = true
  · have e1 := eN_had h1
    by_cases h2 : F n = true
    · rw [if_neg (fun z => z.2 h2)]
      have h3 : hadB F (n + 1) = true := by rw [hadB_s]; exact h2
      have e2 := eN_had h3
      rw [sN_step, if_neg (fun z => z.2 h1)] at e2
      omega
    · rw [if_pos ⟨h1, h2⟩]
      have h3 : ¬ hadB F (n + 1) = true := by rw [hadB_s]; exact h2
      have e2 := eN_not h3
      rw [sN_step, if_neg (fun z => h2 z.1)] at e2
      omega
  · have e1 := eN_not h1
    rw [if_neg (fun z => h1 z.1)]
    by_cases h2 : F n = true
    · have h3 : hadB F (n + 1) = true := by rw [hadB_s]; exact h2
      have e2 := eN_had h3
      rw [sN_step, if_pos ⟨h2, h1⟩] at e2
      omega
    · have h3 : ¬ hadB F (n + 1) = true := by rw [hadB_s]; exact h2
      have e2 := eN_not h3
      rw [sN_step, if_neg (fun z => h2 z.1)] at e2
      omega
theorem winB_at {F : Nat → Bool} {a : Nat} (ha : a < 100) (hs : sta F a = true) : winB F (sN F a) = (a : Int) := by
  refine fnd_some ha (by simp [hs]) (fun b _ hb => ?_)
  simp only [Bool.and_eq_true, beq_iff_eq] at hb
  exact sta_uniq hb.1 hs hb.2
theorem winB_no {F : Nat → Bool} {k : Nat} (hk : sN F 100 ≤ k) : winB F k = -1 := by
  refine fnd_none (fun a ha hp => ?_)
  simp only [Bool.and_eq_true, beq_iff_eq] at hp
  have h1 : sN F (a + 1) = sN F a + 1 := by
    rw [sN_step, if_pos (sta_iff.mp hp.1)]
  have := sN_mono (F := F) (show a + 1 ≤ 100 by omega)
  omega
theorem end_uniq {F : Nat → Bool} {a b : Nat} (ha : F a = true ∧ ¬ F (a + 1) = true) (hb : F b = true ∧ ¬ F (b + 1) = true) (h : sN F (a + 1) = sN F (b + 1)) : a = b := by
  have key : ∀ x y, F x = true ∧ ¬ F (x + 1) = true → F y = true → x < y → sN F (x + 1) < sN F (y + 1) := by
    intro x y hx hy hxy
    obtain ⟨c, h1, h2, h3, h4⟩ := run_back (F := F) (y + 1) (by rw [hadB_s]; exact hy)
    have hc : x + 1 < c ∨ c = x + 1 ∨ c ≤ x := by omega
    rcases hc with q | q | q
    · have := sN_mono (F := F) (show x + 1 ≤ c by omega); omega
    · subst q; rw [sta_iff] at h2; exact absurd h2.1 hx.2
    · exact absurd (h4 (x + 1) (by omega) (by omega)) hx.2
  rcases Nat.lt_trichotomy a b with q | q | q
  · have := key a b ha hb.1 q; omega
  · exact q
  · have := key b a hb ha.1 q; omega
theorem winE_at {F : Nat → Bool} {b : Nat} (hb : b < 100) (h : F b = true ∧ ¬ F (b + 1) = true) {k : Nat} (hk : sN F (b + 1) = k + 1) : winE F k = (b : Int) := by
  refine fnd_some hb (by simp [h.1, h.2, hk]) (fun c _ hc => ?_)
  simp only [Bool.and_eq_true, beq_iff_eq, Bool.not_eq_true'] at hc
  exact end_uniq ⟨hc.1.1, by rw [hc.1.2]; decide⟩ h (hc.2.trans hk.symm)
theorem winE_no {F : Nat → Bool} {k : Nat} (hk : sN F 100 ≤ k) : winE F k = -1 := by
  refine fnd_none (fun a ha hp => ?_)
  simp only [Bool.and_eq_true, beq_iff_eq] at hp
  have := sN_mono (F := F) (show a + 1 ≤ 100 by omega)
  omega
theorem lstF_at {F : Nat → Bool} {b : Nat} (hb : b < 100) (h : F b = true) (hn : ∀ c, b < c → c < 100 → ¬ F c = true) : lstF F = (b : Int) := by
  refine fnd_some hb ?_ (fun c hc hp => ?_)
  · simp only [Bool.and_eq_true, List.all_eq_true, Bool.or_eq_true, decide_eq_true_eq, Bool.not_eq_true', h, true_and]
    intro c hc
    by_cases q : c ≤ b
    · exact Or.inl q
    · exact Or.inr (by simpa using hn c (by omega) (List.mem_range.mp hc))
  · simp only [Bool.and_eq_true, List.all_eq_true, Bool.or_eq_true, decide_eq_true_eq, Bool.not_eq_true'] at hp
    rcases Nat.lt_trichotomy b c with q | q | q
    · exact absurd hp.1 (hn c q hc)
    · exact q.symm
    · rcases hp.2 b (List.mem_range.mpr hb) with z | z
      · omega
      · rw [h] at z; cases z
theorem lstF_no {F : Nat → Bool} (h : ∀ c, c < 100 → ¬ F c = true) : lstF F = -1 := by
  refine fnd_none (fun a ha hp => ?_)
  simp only [Bool.and_eq_true] at hp
  exact h a ha hp.1
