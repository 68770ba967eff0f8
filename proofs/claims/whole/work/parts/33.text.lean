/-! the text: tokens and what they tell -/
def kd (T : Nat → Int) (i : Nat) : Nat := if 97 ≤ T i ∧ T i ≤ 122 then 1 else if 48 ≤ T i ∧ T i ≤ 57 then 2 else 0
def skpN (T : Nat → Int) (L : Nat) : Nat → Nat → Nat
  | 0, i => i
  | n + 1, i => if i < L ∧ T i = 32 then skpN T L n (i + 1) else i
def skp (T : Nat → Int) (L i : Nat) : Nat := skpN T L (L - i) i
def extN (T : Nat → Int) (L k : Nat) : Nat → Nat → Nat
  | 0, i => i
  | n + 1, i => if i < L ∧ kd T i = k then extN T L k n (i + 1) else i
def ext (T : Nat → Int) (L k i : Nat) : Nat := extN T L k (L - i) i
def tkE (T : Nat → Int) (L s : Nat) : Nat := if L ≤ s then s else if kd T s = 0 then s + 1 else ext T L (kd T s) (s + 1)
def nx (T : Nat → Int) (L s : Nat) : Nat := skp T L (tkE T L s)
theorem skp_step (T : Nat → Int) (L i : Nat) : skp T L i = if i < L ∧ T i = 32 then skp T L (i + 1) else i := by
  unfold skp
  by_cases h : i < L
  · obtain ⟨n, hn⟩ : ∃ n, L - i = n + 1 := ⟨L - i - 1, by omega⟩
    rw [hn, show L - (i + 1) = n by omega]
    rfl
  · rw [show L - i = 0 by omega, if_neg (fun z => h z.1)]
    rfl
theorem ext_step (T : Nat → Int) (L k i : Nat) : ext T L k i = if i < L ∧ kd T i = k then ext T L k (i + 1) else i := by
  unfold ext
  by_cases h : i < L
  · obtain ⟨n, hn⟩ : ∃ n, L - i = n + 1 := ⟨L - i - 1, by omega⟩
    rw [hn, show L - (i + 1) = n by omega]
    rfl
  · rw [show L - i = 0 by omega, if_neg (fun z => h z.1)]
    rfl
theorem skpN_le (T : Nat → Int) (L : Nat) : ∀ n i, i ≤ L → i ≤ skpN T L n i ∧ skpN T L n i ≤ L
  | 0, i, h => ⟨Nat.le_refl _, h⟩
  | n + 1, i, h => by
    unfold skpN
    by_cases c : i < L ∧ T i = 32
    · rw [if_pos c]
      have := skpN_le T L n (i + 1) (by omega)
      omega
    · rw [if_neg c]
      exact ⟨Nat.le_refl _, h⟩
theorem extN_le (T : Nat → Int) (L k : Nat) : ∀ n i, i ≤ L → i ≤ extN T L k n i ∧ extN T L k n i ≤ L
  | 0, i, h => ⟨Nat.le_refl _, h⟩
  | n + 1, i, h => by
    unfold extN
    by_cases c : i < L ∧ kd T i = k
    · rw [if_pos c]
      have := extN_le T L k n (i + 1) (by omega)
      omega
    · rw [if_neg c]
      exact ⟨Nat.le_refl _, h⟩
theorem skp_le {T : Nat → Int} {L i : Nat} (h : i ≤ L) : i ≤ skp T L i ∧ skp T L i ≤ L := skpN_le T L _ i h
theorem ext_le {T : Nat → Int} {L k i : Nat} (h : i ≤ L) : i ≤ ext T L k i ∧ ext T L k i ≤ L := extN_le T L k _ i h
theorem tkE_le {T : Nat → Int} {L s : Nat} (h : s ≤ L) : s ≤ tkE T L s ∧ tkE T L s ≤ L ∧ (s < L → s < tkE T L s) := by
  unfold tkE
  by_cases c : L ≤ s
  · rw [if_pos c]; omega
  · rw [if_neg c]
    by_cases c2 : kd T s = 0
    · rw [if_pos c2]; omega
    · rw [if_neg c2]
      have := ext_le (T := T) (L := L) (k := kd T s) (i := s + 1) (by omega)
      omega
theorem nx_le {T : Nat → Int} {L s : Nat} (h : s ≤ L) : nx T L s ≤ L := (skp_le (tkE_le h).2.1).2
/-- inside a token the bytes are of one kind -/
theorem extN_in (T : Nat → Int) (L k : Nat) : ∀ n i j, i ≤ j → j < extN T L k n i → kd T j = k
  | 0, i, j, h1, h2 => absurd h2 (by unfold extN; omega)
  | n + 1, i, j, h1, h2 => by
    unfold extN at h2
    by_cases c : i < L ∧ kd T i = k
    · rw [if_pos c] at h2
      by_cases e : i = j
      · rw [← e]; exact c.2
      · exact extN_in T L k n (i + 1) j (by omega) h2
    · rw [if_neg c] at h2
      omega
theorem tkE_in {T : Nat → Int} {L s j : Nat} (h1 : s ≤ j) (h2 : j < tkE T L s) : kd T j = kd T s := by
  unfold tkE at h2
  by_cases c : L ≤ s
  · rw [if_pos c] at h2; omega
  · rw [if_neg c] at h2
    by_cases c2 : kd T s = 0
    · rw [if_pos c2] at h2
      rw [show j = s by omega]
    · rw [if_neg c2] at h2
      by_cases e : j = s
      · rw [e]
      · exact extN_in T L (kd T s) _ (s + 1) j (by omega) h2
theorem kd_1 {T : Nat → Int} {i : Nat} : kd T i = 1 ↔ 97 ≤ T i ∧ T i ≤ 122 := by
  unfold kd
  by_cases c : 97 ≤ T i ∧ T i ≤ 122
  · rw [if_pos c]; exact ⟨fun _ => c, fun _ => rfl⟩
  · rw [if_neg c]
    refine ⟨fun h => ?_, fun h => absurd h c⟩
    split at h <;> exact absurd h (by decide)
theorem kd_2 {T : Nat → Int} {i : Nat} : kd T i = 2 ↔ 48 ≤ T i ∧ T i ≤ 57 := by
  unfold kd
  by_cases c : 97 ≤ T i ∧ T i ≤ 122
  · rw [if_pos c]; exact ⟨fun h => absurd h (by decide), fun h => by omega⟩
  · rw [if_neg c]
    by_cases c2 : 48 ≤ T i ∧ T i ≤ 57
    · rw [if_pos c2]; exact ⟨fun _ => c2, fun _ => rfl⟩
    · rw [if_neg c2]; exact ⟨fun h => absurd h (by decide), fun h => absurd h c2⟩
/-- the number at s, or -1 -/
def numH (T : Nat → Int) (L s : Nat) : Int := if s < L ∧ (48 ≤ T s ∧ T s ≤ 57) ∧ tkE T L s ≤ s + 2 then (if tkE T L s = s + 1 then T s - 48 else 10 * (T s - 48) + T (s + 1) - 48) else -1
/-- the sound at s, or -1 -/
def sndH (T : Nat → Int) (L s : Nat) : Int := if s < L ∧ (97 ≤ T s ∧ T s ≤ 122) ∧ tkE T L s ≤ s + 1 then T s - 97 else -1
def wch : Nat → Nat → Int
  | 0, 0 => 97
  | 0, 1 => 108
  | 0, 2 => 108
  | 1, 0 => 108
  | 1, 1 => 97
  | 1, 2 => 119
  | 2, 0 => 109
  | 2, 1 => 101
  | 2, 2 => 101
  | 2, 3 => 116
  | 3, 0 => 108
  | 3, 1 => 111
  | 3, 2 => 97
  | 3, 3 => 110
  | _, _ => 0
def chA (T : Nat → Int) (L s j : Nat) : Int := if s + j < tkE T L s then T (s + j) else 0
/-- the loan that a text adds: from f to t, the word at p, n letters, the end at q, r letters -/
def lonW (R : Nat → Int) (T : Nat → Int) (f t : Int) (p n q r : Nat) : Nat → Int := fun j => if j = 1 then R 1 + 1 else if j = 130 + 22 * no R then f else if j = 130 + 22 * no R + 1 then t else if j = 130 + 22 * no R + 2 then (n : Int) else if j = 130 + 22 * no R + 3 then (r : Int) else if 130 + 22 * no R + 4 ≤ j ∧ j < 130 + 22 * no R + 4 + n then T (p + (j - (130 + 22 * no R + 4))) - 97 else if 130 + 22 * no R + 12 ≤ j ∧ j < 130 + 22 * no R + 12 + r then T (q + (j - (130 + 22 * no R + 12))) - 97 else R j
def allW (R : Nat → Int) : Nat → Int := fun j => if j = 0 ∨ j = 1 ∨ (98 ≤ j ∧ j < 130) then 0 else R j
/-- a clause that stands: the new row and where the next token is; a fault: where -/
def psLaw5 (T : Nat → Int) (L : Nat) (W : Nat → Int) (t d x y v : Int) (s : Nat) : Option (Nat → Int) × Nat := if sndH T L s = -1 then (none, s) else (some (insW W (nl W) (posL W t d (nl W)) (lfs t d x y v (sndH T L s))), nx T L s)
def psLaw4 (T : Nat → Int) (L : Nat) (W : Nat → Int) (t d x y : Int) (s : Nat) : Option (Nat → Int) × Nat := if s < L ∧ T s = 46 then (some (insW W (nl W) (posL W t d (nl W)) (lfs t d x y 0 (-1))), nx T L s) else if s < L ∧ T s = 62 then psLaw5 T L W t d x y 1 (nx T L s) else if s < L ∧ T s = 60 then psLaw5 T L W t d x y 2 (nx T L s) else (none, s)
def psLaw3 (T : Nat → Int) (L : Nat) (W : Nat → Int) (t d x : Int) (s : Nat) : Option (Nat → Int) × Nat := if s < L ∧ T s = 45 then psLaw4 T L W t d x (-1) (nx T L s) else if sndH T L s = -1 ∨ sndH T L s = x then (none, s) else psLaw4 T L W t d x (sndH T L s) (nx T L s)
def psLaw2 (T : Nat → Int) (L : Nat) (W : Nat → Int) (t d : Int) (s : Nat) : Option (Nat → Int) × Nat := if sndH T L s = -1 then (none, s) else psLaw3 T L W t d (sndH T L s) (nx T L s)
def psLaw1 (T : Nat → Int) (L : Nat) (W : Nat → Int) (t : Int) (s : Nat) : Option (Nat → Int) × Nat := if (1 ≤ numH T L s ∧ numH T L s ≤ 99) ∧ ¬ hasL W t (numH T L s) (nl W) = true then psLaw2 T L W t (numH T L s) (nx T L s) else (none, s)
def psLaw (T : Nat → Int) (L : Nat) (W : Nat → Int) (s : Nat) : Option (Nat → Int) × Nat := if 0 ≤ numH T L s ∧ numH T L s ≤ 3 then psLaw1 T L W (numH T L s) (nx T L s) else (none, s)
def psMeet3 (T : Nat → Int) (L : Nat) (W : Nat → Int) (f t a : Int) (s : Nat) : Option (Nat → Int) × Nat := if a ≤ numH T L s ∧ numH T L s ≤ 99 then (some (setM W f t (a + 1) (numH T L s)), nx T L s) else (none, s)
def psMeet2 (T : Nat → Int) (L : Nat) (W : Nat → Int) (f t : Int) (s : Nat) : Option (Nat → Int) × Nat := if 0 ≤ numH T L s ∧ numH T L s ≤ 99 then psMeet3 T L W f t (numH T L s) (nx T L s) else (none, s)
def psLoan3 (T : Nat → Int) (L : Nat) (W : Nat → Int) (f t : Int) (p s : Nat) : Option (Nat → Int) × Nat := if s < L ∧ T s = 45 then (some (lonW W T f t p (tkE T L p - p) s 0), nx T L s) else if s < L ∧ (97 ≤ T s ∧ T s ≤ 122) ∧ tkE T L s ≤ s + 10 then (some (lonW W T f t p (tkE T L p - p) s (tkE T L s - s)), nx T L s) else (none, s)
def psLoan2 (T : Nat → Int) (L : Nat) (W : Nat → Int) (f t : Int) (s : Nat) : Option (Nat → Int) × Nat := if s < L ∧ (97 ≤ T s ∧ T s ≤ 122) ∧ tkE T L s ≤ s + 8 then psLoan3 T L W f t s (nx T L s) else (none, s)
/-- two tongues, and then what g reads -/
def psTwo1 (T : Nat → Int) (L : Nat) (f : Int) (g : Int → Int → Nat → Option (Nat → Int) × Nat) (s : Nat) : Option (Nat → Int) × Nat := if (0 ≤ numH T L s ∧ numH T L s ≤ 3) ∧ numH T L s ≠ f then g f (numH T L s) (nx T L s) else (none, s)
def psTwo (T : Nat → Int) (L : Nat) (g : Int → Int → Nat → Option (Nat → Int) × Nat) (s : Nat) : Option (Nat → Int) × Nat := if 0 ≤ numH T L s ∧ numH T L s ≤ 3 then psTwo1 T L (numH T L s) g (nx T L s) else (none, s)
def wdX (T : Nat → Int) (L s x : Nat) : Bool := decide (s < L ∧ tkE T L s ≤ s + 4 ∧ wch x 0 = chA T L s 0 ∧ wch x 1 = chA T L s 1 ∧ wch x 2 = chA T L s 2 ∧ wch x 3 = chA T L s 3)
/-- which word stands at s: 0 all, 1 law, 2 meet, 3 loan -/
def wdN (T : Nat → Int) (L s : Nat) : Int := if wdX T L s 0 = true then 0 else if wdX T L s 1 = true then 1 else if wdX T L s 2 = true then 2 else if wdX T L s 3 = true then 3 else -1
def psC (T : Nat → Int) (L : Nat) (W : Nat → Int) (s : Nat) : Option (Nat → Int) × Nat := if wdN T L s = 0 then (some (allW W), nx T L s) else if wdN T L s = 1 then (if W 0 = 16 then (none, s) else psLaw T L W (nx T L s)) else if wdN T L s = 2 then psTwo T L (psMeet2 T L W) (nx T L s) else if wdN T L s = 3 then (if W 1 = 12 then (none, s) else psTwo T L (psLoan2 T L W) (nx T L s)) else (none, s)
/-- the clauses: the last row or none, where it ends, how many clauses -/
def psR (T : Nat → Int) (L : Nat) : Nat → (Nat → Int) → Nat → Nat → Option (Nat → Int) × Nat × Nat
  | 0, _, s, c => (none, s, c)
  | n + 1, W, s, c => match psC T L W s with
    | (none, s') => (none, s', c)
    | (some W', s') => if L ≤ s' then (some W', s', c) else if n = 0 ∨ ¬ T s' = 59 then (none, s', c) else psR T L n W' (nx T L s') (c + 1)
def psT (T : Nat → Int) (L : Nat) (W : Nat → Int) : Option (Nat → Int) × Nat × Nat := psR T L 24 W (skp T L 0) 1
