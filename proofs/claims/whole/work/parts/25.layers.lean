/-! counts, greatest, layers -/
def cntN (p : Nat → Bool) : Nat → Nat
  | 0 => 0
  | n + 1 => cntN p n + (if p n = true then 1 else 0)
theorem cntN_le (p : Nat → Bool) : ∀ n, cntN p n ≤ n
  | 0 => Nat.le_refl _
  | n + 1 => by
    have := cntN_le p n
    unfold cntN
    split <;> omega
theorem cntN_mono {p q : Nat → Bool} (h : ∀ i, p i = true → q i = true) : ∀ n, cntN p n ≤ cntN q n
  | 0 => Nat.le_refl _
  | n + 1 => by
    have := cntN_mono h n
    unfold cntN
    by_cases c : p n = true
    · rw [if_pos c, if_pos (h n c)]; omega
    · rw [if_neg c]; omega
theorem cntN_lt {p q : Nat → Bool} (h : ∀ i, p i = true → q i = true) : ∀ n i, i < n → q i = true → ¬ p i = true → cntN p n + 1 ≤ cntN q n
  | 0, i, hi, _, _ => absurd hi (by omega)
  | n + 1, i, hi, h1, h2 => by
    unfold cntN
    by_cases e : i = n
    · subst e
      have := cntN_mono h i
      rw [if_neg h2, if_pos h1]; omega
    · have := cntN_lt h n i (by omega) h1 h2
      by_cases c : p n = true
      · rw [if_pos c, if_pos (h n c)]; omega
      · rw [if_neg c]; omega
def mxN (g : Nat → Nat) : Nat → Nat
  | 0 => 0
  | n + 1 => if mxN g n < g n then g n else mxN g n
theorem mxN_ge (g : Nat → Nat) : ∀ n i, i < n → g i ≤ mxN g n
  | 0, i, h => absurd h (by omega)
  | n + 1, i, h => by
    unfold mxN
    by_cases e : i = n
    · subst e
      split <;> omega
    · have := mxN_ge g n i (by omega)
      split <;> omega
theorem mxN_at (g : Nat → Nat) : ∀ n, mxN g n = 0 ∨ ∃ i, i < n ∧ g i = mxN g n
  | 0 => Or.inl rfl
  | n + 1 => by
    unfold mxN
    split
    · exact Or.inr ⟨n, by omega, rfl⟩
    · rcases mxN_at g n with h | ⟨i, h1, h2⟩
      · exact Or.inl h
      · exact Or.inr ⟨i, by omega, h2⟩
theorem mxN_congr {g g' : Nat → Nat} : ∀ n, (∀ i, i < n → g i = g' i) → mxN g n = mxN g' n
  | 0, _ => rfl
  | n + 1, h => by
    unfold mxN
    rw [mxN_congr n (fun i hi => h i (by omega)), h n (by omega)]
def fsD (w : Nat → Int) (i : Nat) : Int := winB (fitW w i) 0
def lsD (w : Nat → Int) (i : Nat) : Int := lstF (fitW w i)
theorem fsD_cases (w : Nat → Int) (i : Nat) : (fsD w i = -1 ∧ ∀ c, c < 100 → ¬ fitW w i c = true) ∨ (∃ a : Nat, a < 100 ∧ fsD w i = (a : Int) ∧ fitW w i a = true) := by
  unfold fsD winB
  rcases fnd_cases (fun a => sta (fitW w i) a && (sN (fitW w i) a == 0)) with ⟨a, h1, h2, h3⟩ | ⟨h1, h2⟩
  · simp only [Bool.and_eq_true] at h2
    exact Or.inr ⟨a, h1, h3, (sta_iff.mp h2.1).1⟩
  · refine Or.inl ⟨h2, ?_⟩
    have key : ∀ n, n ≤ 100 → sN (fitW w i) n = 0 ∧ ∀ c, c < n → ¬ fitW w i c = true := by
      intro n
      induction n with
      | zero => exact fun _ => ⟨rfl, fun c hc => absurd hc (by omega)⟩
      | succ n ih =>
        intro hn
        obtain ⟨q1, q2⟩ := ih (by omega)
        have hF : ¬ fitW w i n = true := by
          intro z
          refine h1 n (by omega) ?_
          have : sta (fitW w i) n = true := by
            rw [sta_iff]
            refine ⟨z, fun hh => ?_⟩
            cases n with
            | zero => rw [hadB_0] at hh; cases hh
            | succ n => rw [hadB_s] at hh; exact q2 n (by omega) hh
          simp [this, q1]
        refine ⟨?_, fun c hc => ?_⟩
        · rw [sN_step, if_neg (fun z => hF z.1), q1]
        · by_cases e : c = n
          · rw [e]; exact hF
          · exact q2 c (by omega)
    exact (key 100 (Nat.le_refl _)).2
theorem lsD_ge {w : Nat → Int} {i c : Nat} (hc : c < 100) (h : fitW w i c = true) : (c : Int) ≤ lsD w i ∧ lsD w i ≤ 99 := by
  unfold lsD lstF
  rcases fnd_cases (fun b => fitW w i b && (List.range 100).all (fun c => decide (c ≤ b) || !fitW w i c)) with ⟨a, h1, h2, h3⟩ | ⟨h1, h2⟩
  · rw [h3]
    simp only [Bool.and_eq_true, List.all_eq_true, Bool.or_eq_true, decide_eq_true_eq, Bool.not_eq_true'] at h2
    rcases h2.2 c (List.mem_range.mpr hc) with q | q
    · omega
    · rw [h] at q; cases q
  · exfalso
    -- the greatest date that fits
    have key : ∀ n, n ≤ 100 → c < n → ∃ b, b < n ∧ fitW w i b = true ∧ ∀ x, b < x → x < n → ¬ fitW w i x = true := by
      intro n
      induction n with
      | zero => intro _ z; omega
      | succ n ih =>
        intro hn hcn
        by_cases q : fitW w i n = true
        · exact ⟨n, by omega, q, fun x h1 h2 => absurd h2 (by omega)⟩
        · have hcn' : c < n := by
            by_cases e : c = n
            · subst e; exact absurd h q
            · omega
          obtain ⟨b, b1, b2, b3⟩ := ih (by omega) hcn'
          refine ⟨b, by omega, b2, fun x hx hxn => ?_⟩
          by_cases e : x = n
          · rw [e]; exact q
          · exact b3 x hx (by omega)
    obtain ⟨b, b1, b2, b3⟩ := key 100 (Nat.le_refl _) hc
    refine h1 b b1 ?_
    simp only [Bool.and_eq_true, List.all_eq_true, Bool.or_eq_true, decide_eq_true_eq, Bool.not_eq_true', b2, true_and]
    intro x hx
    by_cases q : x ≤ b
    · exact Or.inl q
    · exact Or.inr (by simpa using b3 x (by omega) (List.mem_range.mp hx))
theorem fsD_lsD {w : Nat → Int} {i : Nat} (h : fsD w i ≠ -1) : 0 ≤ fsD w i ∧ fsD w i ≤ 99 ∧ fsD w i ≤ lsD w i ∧ lsD w i ≤ 99 := by
  rcases fsD_cases w i with q | ⟨a, h1, h2, h3⟩
  · exact absurd q.1 h
  · have := lsD_ge h1 h3
    omega
theorem lsD_no {w : Nat → Int} {i : Nat} (h : fsD w i = -1) : lsD w i = -1 := by
  rcases fsD_cases w i with q | ⟨a, h1, h2, h3⟩
  · exact lstF_no q.2
  · omega
def oldB (w : Nat → Int) (i j : Nat) : Bool := decide (lo w i 1 = lo w j 1 ∧ fsD w i ≠ -1 ∧ fsD w j ≠ -1 ∧ lsD w i < fsD w j)
theorem oldB_iff {w : Nat → Int} {i j : Nat} : oldB w i j = true ↔ lo w i 1 = lo w j 1 ∧ fsD w i ≠ -1 ∧ fsD w j ≠ -1 ∧ lsD w i < fsD w j := decide_eq_true_iff
theorem oldB_lt {w : Nat → Int} {i j : Nat} (h : oldB w i j = true) : fsD w i < fsD w j := by
  obtain ⟨-, h2, h3, h4⟩ := oldB_iff.mp h
  have := fsD_lsD h2
  omega
def layF (w : Nat → Int) : Nat → Nat → Nat
  | 0, _ => 0
  | n + 1, k => if fsD w k = -1 then 0 else 1 + mxN (fun i => if oldB w i k = true then layF w n i else 0) (no w)
def lay (w : Nat → Int) (k : Nat) : Nat := layF w 101 k
theorem layF_stab (w : Nat → Int) : ∀ (n k : Nat), (fsD w k = -1 ∨ fsD w k < (n : Int)) → layF w (n + 1) k = layF w n k
  | 0, k, h => by
    have : fsD w k = -1 := by
      rcases h with h | h
      · exact h
      · by_cases q : fsD w k = -1
        · exact q
        · have := fsD_lsD q; omega
    show (if _ then _ else _) = _
    rw [if_pos this]
    rfl
  | n + 1, k, h => by
    show (if fsD w k = -1 then 0 else 1 + mxN (fun i => if oldB w i k = true then layF w (n + 1) i else 0) (no w)) = (if fsD w k = -1 then 0 else 1 + mxN (fun i => if oldB w i k = true then layF w n i else 0) (no w))
    by_cases q : fsD w k = -1
    · rw [if_pos q, if_pos q]
    · rw [if_neg q, if_neg q]
      congr 1
      refine mxN_congr _ (fun i _ => ?_)
      by_cases c : oldB w i k = true
      · rw [if_pos c, if_pos c]
        have := oldB_lt c
        have := fsD_lsD (oldB_iff.mp c).2.1
        exact layF_stab w n i (Or.inr (by omega))
      · rw [if_neg c, if_neg c]
theorem lay_eq (w : Nat → Int) (k : Nat) : lay w k = if fsD w k = -1 then 0 else 1 + mxN (fun i => if oldB w i k = true then lay w i else 0) (no w) := by
  unfold lay
  rw [← layF_stab w 101 k]
  · rfl
  · by_cases q : fsD w k = -1
    · exact Or.inl q
    · have := fsD_lsD q
      exact Or.inr (by omega)
theorem lay_0 {w : Nat → Int} {k : Nat} (h : fsD w k = -1) : lay w k = 0 := by rw [lay_eq, if_pos h]
theorem lay_pos {w : Nat → Int} {k : Nat} (h : fsD w k ≠ -1) : 1 ≤ lay w k := by rw [lay_eq, if_neg h]; omega
theorem lay_old {w : Nat → Int} {i k : Nat} (hi : i < no w) (h : oldB w i k = true) : lay w i + 1 ≤ lay w k := by
  rw [lay_eq w k, if_neg (oldB_iff.mp h).2.2.1]
  have := mxN_ge (fun i => if oldB w i k = true then lay w i else 0) (no w) i hi
  simp only [h, if_true] at this
  omega
theorem lay_pred {w : Nat → Int} {k : Nat} (h : 2 ≤ lay w k) : ∃ i, i < no w ∧ oldB w i k = true ∧ lay w i + 1 = lay w k := by
  by_cases q : fsD w k = -1
  · rw [lay_0 q] at h; omega
  · have e := lay_eq w k
    rw [if_neg q] at e
    rcases mxN_at (fun i => if oldB w i k = true then lay w i else 0) (no w) with z | ⟨i, h1, h2⟩
    · omega
    · by_cases c : oldB w i k = true
      · refine ⟨i, h1, c, ?_⟩
        simp only [c, if_true] at h2
        omega
      · simp only [c] at h2
        simp at h2
        omega
theorem lay_le {w : Nat → Int} {k : Nat} (hk : k < no w) : lay w k ≤ no w := by
  have key : ∀ v i, i < no w → v ≤ lay w i → v ≤ cntN (fun j => decide (1 ≤ lay w j ∧ lay w j ≤ v)) (no w) := by
    intro v
    induction v with
    | zero => intro i _ _; omega
    | succ v ih =>
      intro i hi hv
      -- a loan whose layer is v + 1
      have ex : ∀ g i, i < no w → v + 1 + g = lay w i → ∃ j, j < no w ∧ lay w j = v + 1 := by
        intro g
        induction g with
        | zero => intro i hi e; exact ⟨i, hi, by omega⟩
        | succ g ihg =>
          intro i hi e
          obtain ⟨j, j1, j2, j3⟩ := lay_pred (w := w) (k := i) (by omega)
          exact ihg j j1 (by omega)
      obtain ⟨j, j1, j2⟩ := ex (lay w i - (v + 1)) i hi (by omega)
      have h1 := ih i hi (by omega)
      have h2 := cntN_lt (p := fun j => decide (1 ≤ lay w j ∧ lay w j ≤ v)) (q := fun j => decide (1 ≤ lay w j ∧ lay w j ≤ v + 1)) (fun x hx => by simp at hx ⊢; omega) (no w) j j1 (by simp; omega) (by simp; omega)
      omega
  have h1 := key (lay w k) k hk (Nat.le_refl _)
  have h2 := cntN_le (fun j => decide (1 ≤ lay w j ∧ lay w j ≤ lay w k)) (no w)
  omega
def kndF (F : Nat → Bool) : Int := if sN F 100 = 0 then 0 else if sN F 100 = 1 then 1 else 2
theorem winB_yes {F : Nat → Bool} (hF : ∀ d, 99 < d → F d = false) {k : Nat} (hk : k < sN F 100) : ∃ a, a < 100 ∧ sta F a = true ∧ sN F a = k ∧ winB F k = (a : Int) := by
  have key : ∀ n, n ≤ 100 → k < sN F n → ∃ a, a < n ∧ sta F a = true ∧ sN F a = k := by
    intro n
    induction n with
    | zero => intro _ z; exact absurd z (by simp [sN])
    | succ n ih =>
      intro hn hk
      by_cases q : k < sN F n
      · obtain ⟨a, h1, h2, h3⟩ := ih (by omega) q
        exact ⟨a, by omega, h2, h3⟩
      · have hs : sN F (n + 1) = sN F n + (if sta F n = true then 1 else 0) := rfl
        by_cases c : sta F n = true
        · rw [if_pos c] at hs
          exact ⟨n, by omega, c, by omega⟩
        · rw [if_neg c] at hs
          omega
  obtain ⟨a, h1, h2, h3⟩ := key 100 (Nat.le_refl _) hk
  exact ⟨a, h1, h2, h3, by rw [← h3]; exact winB_at h1 h2⟩
theorem winB_ne {F : Nat → Bool} (hF : ∀ d, 99 < d → F d = false) {k : Nat} : winB F k = -1 ↔ sN F 100 ≤ k := by
  constructor
  · intro h
    by_cases q : k < sN F 100
    · obtain ⟨a, _, _, _, e⟩ := winB_yes hF q
      omega
    · omega
  · exact winB_no
theorem kndF_eq {F : Nat → Bool} (hF : ∀ d, 99 < d → F d = false) : kndF F = if winB F 0 = -1 then 0 else if winB F 1 = -1 then 1 else 2 := by
  unfold kndF
  have h0 := winB_ne hF (k := 0)
  have h1 := winB_ne hF (k := 1)
  by_cases c : sN F 100 = 0
  · rw [if_pos c, if_pos (h0.mpr (by omega))]
  · rw [if_neg c, if_neg (show ¬ winB F 0 = -1 from fun z => c (by have := h0.mp z; omega))]
    by_cases c1 : sN F 100 = 1
    · rw [if_pos c1, if_pos (h1.mpr (by omega))]
    · rw [if_neg c1, if_neg (show ¬ winB F 1 = -1 from fun z => c1 (by have := h1.mp z; omega))]
