theorem wb_tb (n : Nat) : (lN n).toBitVec = BitVec.ofNat 64 n := rfl
theorem wb_inj {a b : Int64} (h : a.toBitVec = b.toBitVec) : a = b := Int64.toBitVec_inj.mp h
theorem wb_tn {n : Nat} (h : n < 2 ^ 64) : (lN n).toBitVec.toNat = n := by rw [wb_tb, BitVec.toNat_ofNat, Nat.mod_eq_of_lt h]
theorem wb_of (x : Int64) : ∃ n, n < 2 ^ 64 ∧ x = lN n := ⟨x.toBitVec.toNat, x.toBitVec.isLt, wb_inj (by rw [wb_tb]; simp)⟩
theorem wb_of32 (x : Int32) : ∃ n, n < 2 ^ 32 ∧ x = nI n := ⟨x.toBitVec.toNat, x.toBitVec.isLt, Int32.toBitVec_inj.mp (by show _ = BitVec.ofNat 32 _; simp)⟩
theorem wb_c : ∀ k, k < 64 → ((nI k).toInt64 &&& 63) = lN k := by decide +kernel
theorem wb_cu : ∀ k, k < 64 → ((nI k).toInt64.toUInt64 &&& Int64.toUInt64 63) = UInt64.ofNat k := by decide +kernel
theorem wb_sm : ∀ k, k < 64 → (BitVec.ofNat 64 k).smod 64 = BitVec.ofNat 64 k := by decide +kernel
theorem wb_pw {a b : Nat} (h : a ≤ b) : 2 ^ b = 2 ^ a * 2 ^ (b - a) := by rw [← Nat.pow_add]; congr 1; omega
theorem wb_lt2 {a b : Nat} (h : a < b) : 2 ^ a < 2 ^ b := Nat.pow_lt_pow_right (by decide) h
theorem wb_mod (n : Nat) : lN n = lN (n % 2 ^ 64) := wb_inj (by rw [wb_tb, wb_tb]; apply BitVec.eq_of_toNat_eq; rw [BitVec.toNat_ofNat, BitVec.toNat_ofNat, Nat.mod_mod])
theorem wb_shr {n k : Nat} (hn : n < 2 ^ 64) (hk : k < 64) : ((lN n).toUInt64 >>> ((nI k).toInt64.toUInt64 &&& Int64.toUInt64 63)).toInt64 = lN (n / 2 ^ k) := by
  rw [wb_cu k hk]
  apply wb_inj
  apply BitVec.eq_of_toNat_eq
  show ((lN n).toUInt64 >>> UInt64.ofNat k).toNat = (BitVec.ofNat 64 _).toNat
  have h1 : (UInt64.ofNat k).toNat = k := by
    show (BitVec.ofNat 64 k).toNat = k
    rw [BitVec.toNat_ofNat, Nat.mod_eq_of_lt (by omega)]
  have h2 : (lN n).toUInt64.toNat = n := wb_tn hn
  rw [UInt64.toNat_shiftRight, h1, h2, Nat.mod_eq_of_lt hk, Nat.shiftRight_eq_div_pow, BitVec.toNat_ofNat, Nat.mod_eq_of_lt (Nat.lt_of_le_of_lt (Nat.div_le_self _ _) hn)]
theorem wb_shl (n : Nat) {k : Nat} (hk : k < 64) : lN n <<< ((nI k).toInt64 &&& 63) = lN (n * 2 ^ k) := by
  rw [wb_c k hk]
  apply wb_inj
  rw [Int64.toBitVec_shiftLeft, wb_tb, wb_tb, wb_tb, wb_sm k hk]
  apply BitVec.eq_of_toNat_eq
  rw [BitVec.shiftLeft_eq', BitVec.toNat_shiftLeft, BitVec.toNat_ofNat, BitVec.toNat_ofNat, BitVec.toNat_ofNat, Nat.mod_eq_of_lt (show k < 2 ^ 64 by omega), Nat.shiftLeft_eq, Nat.mul_mod, Nat.mod_mod, ← Nat.mul_mod]
theorem wb_and {a b : Nat} (ha : a < 2 ^ 64) (hb : b < 2 ^ 64) : lN a &&& lN b = lN (a &&& b) := by
  apply wb_inj
  rw [Int64.toBitVec_and, wb_tb, wb_tb, wb_tb]
  apply BitVec.eq_of_toNat_eq
  rw [BitVec.toNat_and, BitVec.toNat_ofNat, BitVec.toNat_ofNat, BitVec.toNat_ofNat, Nat.mod_eq_of_lt ha, Nat.mod_eq_of_lt hb, Nat.mod_eq_of_lt (Nat.and_lt_two_pow _ hb)]
theorem wb_or {a b : Nat} (ha : a < 2 ^ 64) (hb : b < 2 ^ 64) : lN a ||| lN b = lN (a ||| b) := by
  apply wb_inj
  rw [Int64.toBitVec_or, wb_tb, wb_tb, wb_tb]
  apply BitVec.eq_of_toNat_eq
  rw [BitVec.toNat_or, BitVec.toNat_ofNat, BitVec.toNat_ofNat, BitVec.toNat_ofNat, Nat.mod_eq_of_lt ha, Nat.mod_eq_of_lt hb, Nat.mod_eq_of_lt (Nat.or_lt_two_pow ha hb)]
theorem wb_mask {n k : Nat} (hn : n < 2 ^ 64) (hk : k < 64) : lN n &&& lN (2 ^ k - 1) = lN (n % 2 ^ k) := by
  rw [wb_and hn (by have := wb_lt2 hk; omega), Nat.and_two_pow_sub_one_eq_mod]
theorem lx_of {a : Int} (h : 0 ≤ a) : Int64.ofInt a = lN a.toNat := by
  obtain ⟨n, rfl⟩ := Int.eq_ofNat_of_zero_le h
  rfl
theorem lx_of32 {a : Int} (h : 0 ≤ a) : Int32.ofInt a = nI a.toNat := by
  obtain ⟨n, rfl⟩ := Int.eq_ofNat_of_zero_le h
  rfl
theorem lx_nat {n : Nat} : Int64.ofInt (n : Int) = lN n := rfl
theorem lx_lt {a : Int} (h0 : 0 ≤ a) (h : in64 a) : a.toNat < 2 ^ 64 := by
  have := h.2
  omega
theorem lx_andlt {a b : Nat} (h : a < 2 ^ 63) : in64 ((a &&& b : Nat) : Int) := by
  have : a &&& b ≤ a := Nat.and_le_left
  constructor <;> omega
theorem lx_orlt {a b : Nat} (h : a < 2 ^ 63) (h2 : b < 2 ^ 63) : in64 ((a ||| b : Nat) : Int) := by
  have : a ||| b < 2 ^ 63 := Nat.or_lt_two_pow h h2
  constructor <;> omega
theorem rr_land {d : Nat} {md : AbM} {bc bs pc pc' : Nat} {ls : List (Option AbV)} {st : List AbV} {h : AbH} {K : Option AbV → AbH → Prop} {a b : Int} (hd : decode (mC md) pc = .ok (.land, 1)) (hp : pc + 1 = pc') (hr : 0 ≤ a ∧ 0 ≤ b) (k : Vx d md bc bs pc' ls (vL ((a.toNat &&& b.toNat : Nat) : Int) :: st) h K) : Vx d md bc bs pc ls (vL b :: vL a :: st) h K := by
  intro l G p e R s m args below meth c H locs cells slots lsr C hL hst hls hR hlo hbc hbs
  have C0 := C
  obtain ⟨hx, hb, hml, hret, hown, hts, hlk, hnm, hKn, hd1, hd2, hRc, hRs⟩ := C0
  subst hp
  obtain ⟨hsb, hsta⟩ := List.forall_mem_cons.mp hst
  obtain ⟨hsa, hst⟩ := List.forall_mem_cons.mp hsta
  have hsa : in64 a := hsa
  have hsb : in64 b := hsb
  have la := lx_lt hr.1 hsa
  have lb := lx_lt hr.2 hsb
  refine lv_land hx hb hd ?_
  rw [lx_of hr.1, lx_of hr.2, wb_and la lb]
  exact k l G p e R s m args below meth c H locs cells slots lsr C hL (List.forall_mem_cons.mpr ⟨lx_andlt (by have := hsa.2; omega), hst⟩) hls hR hlo hbc hbs
theorem rr_lor {d : Nat} {md : AbM} {bc bs pc pc' : Nat} {ls : List (Option AbV)} {st : List AbV} {h : AbH} {K : Option AbV → AbH → Prop} {a b : Int} (hd : decode (mC md) pc = .ok (.lor, 1)) (hp : pc + 1 = pc') (hr : 0 ≤ a ∧ 0 ≤ b) (k : Vx d md bc bs pc' ls (vL ((a.toNat ||| b.toNat : Nat) : Int) :: st) h K) : Vx d md bc bs pc ls (vL b :: vL a :: st) h K := by
  intro l G p e R s m args below meth c H locs cells slots lsr C hL hst hls hR hlo hbc hbs
  have C0 := C
  obtain ⟨hx, hb, hml, hret, hown, hts, hlk, hnm, hKn, hd1, hd2, hRc, hRs⟩ := C0
  subst hp
  obtain ⟨hsb, hsta⟩ := List.forall_mem_cons.mp hst
  obtain ⟨hsa, hst⟩ := List.forall_mem_cons.mp hsta
  have hsa : in64 a := hsa
  have hsb : in64 b := hsb
  have la := lx_lt hr.1 hsa
  have lb := lx_lt hr.2 hsb
  refine lv_lor hx hb hd ?_
  rw [lx_of hr.1, lx_of hr.2, wb_or la lb]
  exact k l G p e R s m args below meth c H locs cells slots lsr C hL (List.forall_mem_cons.mpr ⟨lx_orlt (by have := hsa.2; omega) (by have := hsb.2; omega), hst⟩) hls hR hlo hbc hbs
theorem rr_lushr {d : Nat} {md : AbM} {bc bs pc pc' : Nat} {ls : List (Option AbV)} {st : List AbV} {h : AbH} {K : Option AbV → AbH → Prop} {a b : Int} (hd : decode (mC md) pc = .ok (.lushr, 1)) (hp : pc + 1 = pc') (hr : 0 ≤ a ∧ 0 ≤ b ∧ b < 64) (k : Vx d md bc bs pc' ls (vL (a / 2 ^ b.toNat) :: st) h K) : Vx d md bc bs pc ls (vI b :: vL a :: st) h K := by
  intro l G p e R s m args below meth c H locs cells slots lsr C hL hst hls hR hlo hbc hbs
  have C0 := C
  obtain ⟨hx, hb, hml, hret, hown, hts, hlk, hnm, hKn, hd1, hd2, hRc, hRs⟩ := C0
  subst hp
  obtain ⟨hsb, hsta⟩ := List.forall_mem_cons.mp hst
  obtain ⟨hsa, hst⟩ := List.forall_mem_cons.mp hsta
  have hsa : in64 a := hsa
  have la := lx_lt hr.1 hsa
  have e2 : (2 : Int) ^ b.toNat = ((2 ^ b.toNat : Nat) : Int) := by simp
  have e1 : Int64.ofInt (a / 2 ^ b.toNat) = lN (a.toNat / 2 ^ b.toNat) := by
    obtain ⟨n, hn⟩ := Int.eq_ofNat_of_zero_le hr.1
    rw [hn, e2, ← Int.natCast_ediv]
    rfl
  have hq : in64 (a / 2 ^ b.toNat) := by
    have h1 : 0 ≤ a / 2 ^ b.toNat := Int.ediv_nonneg hr.1 (by rw [e2]; exact Int.natCast_nonneg _)
    have h2 : a / 2 ^ b.toNat ≤ a := Int.ediv_le_self _ hr.1
    have := hsa.2
    constructor <;> omega
  refine lv_lushr hx hb hd (v := Int64.ofInt (a / 2 ^ b.toNat)) ?_ ?_
  · rw [lx_of hr.1, lx_of32 hr.2.1, wb_shr la (by omega), e1]
  show W p l e R s m args below meth c H locs cells slots _ (F0 m (pc + 1) lsr ((vL (a / 2 ^ b.toNat) :: st).map ab_cv))
  exact k l G p e R s m args below meth c H locs cells slots lsr C hL (List.forall_mem_cons.mpr ⟨hq, hst⟩) hls hR hlo hbc hbs
theorem rr_lshl {d : Nat} {md : AbM} {bc bs pc pc' : Nat} {ls : List (Option AbV)} {st : List AbV} {h : AbH} {K : Option AbV → AbH → Prop} {a b : Int} (hd : decode (mC md) pc = .ok (.lshl, 1)) (hp : pc + 1 = pc') (hr : 0 ≤ a ∧ 0 ≤ b ∧ b < 64) (hq : in64 (a * 2 ^ b.toNat)) (k : Vx d md bc bs pc' ls (vL (a * 2 ^ b.toNat) :: st) h K) : Vx d md bc bs pc ls (vI b :: vL a :: st) h K := by
  intro l G p e R s m args below meth c H locs cells slots lsr C hL hst hls hR hlo hbc hbs
  have C0 := C
  obtain ⟨hx, hb, hml, hret, hown, hts, hlk, hnm, hKn, hd1, hd2, hRc, hRs⟩ := C0
  subst hp
  obtain ⟨hsb, hsta⟩ := List.forall_mem_cons.mp hst
  obtain ⟨hsa, hst⟩ := List.forall_mem_cons.mp hsta
  have e2 : (2 : Int) ^ b.toNat = ((2 ^ b.toNat : Nat) : Int) := by simp
  have e1 : Int64.ofInt (a * 2 ^ b.toNat) = lN (a.toNat * 2 ^ b.toNat) := by
    obtain ⟨n, hn⟩ := Int.eq_ofNat_of_zero_le hr.1
    rw [hn, e2, ← Int.natCast_mul]
    rfl
  refine lv_lshl hx hb hd (v := Int64.ofInt (a * 2 ^ b.toNat)) ?_ ?_
  · rw [lx_of hr.1, lx_of32 hr.2.1, wb_shl _ (by omega), e1]
  show W p l e R s m args below meth c H locs cells slots _ (F0 m (pc + 1) lsr ((vL (a * 2 ^ b.toNat) :: st).map ab_cv))
  exact k l G p e R s m args below meth c H locs cells slots lsr C hL (List.forall_mem_cons.mpr ⟨hq, hst⟩) hls hR hlo hbc hbs
theorem i32_and31 (a : Int) : Int32.ofInt a &&& Int32.ofInt 31 = Int32.ofInt (a % 32) := by
  apply Int32.toBitVec_inj.mp
  apply BitVec.eq_of_toNat_eq
  show (BitVec.ofInt 32 a &&& BitVec.ofInt 32 31).toNat = (BitVec.ofInt 32 (a % 32)).toNat
  rw [BitVec.toNat_and, BitVec.toNat_ofInt, BitVec.toNat_ofInt, BitVec.toNat_ofInt]
  have e : ((31 : Int) % ((2 ^ 32 : Nat) : Int)).toNat = 2 ^ 5 - 1 := by decide
  rw [e, Nat.and_two_pow_sub_one_eq_mod]
  omega
theorem i32_andN {a b : Int} (ha : 0 ≤ a) (hb : 0 ≤ b) (h1 : in32 a) (h2 : in32 b) : Int32.ofInt a &&& Int32.ofInt b = Int32.ofInt ((a.toNat &&& b.toNat : Nat) : Int) := by
  apply Int32.toBitVec_inj.mp
  apply BitVec.eq_of_toNat_eq
  show (BitVec.ofInt 32 a &&& BitVec.ofInt 32 b).toNat = (BitVec.ofInt 32 _).toNat
  rw [BitVec.toNat_and, BitVec.toNat_ofInt, BitVec.toNat_ofInt, BitVec.toNat_ofInt]
  have q1 : a.toNat &&& b.toNat ≤ a.toNat := Nat.and_le_left
  have := h1.2
  have := h2.2
  rw [show (a % ((2 ^ 32 : Nat) : Int)).toNat = a.toNat by omega, show (b % ((2 ^ 32 : Nat) : Int)).toNat = b.toNat by omega]
  omega
theorem rr_iand31 {d : Nat} {md : AbM} {bc bs pc pc' : Nat} {ls : List (Option AbV)} {st : List AbV} {h : AbH} {K : Option AbV → AbH → Prop} {a : Int} (hd : decode (mC md) pc = .ok (.iand, 1)) (hp : pc + 1 = pc')  (k : Vx d md bc bs pc' ls (vI (a % 32) :: st) h K) : Vx d md bc bs pc ls (vI 31 :: vI a :: st) h K := by
  intro l G p e R s m args below meth c H locs cells slots lsr C hL hst hls hR hlo hbc hbs
  have C0 := C
  obtain ⟨hx, hb, hml, hret, hown, hts, hlk, hnm, hKn, hd1, hd2, hRc, hRs⟩ := C0
  subst hp
  obtain ⟨hsb, hsta⟩ := List.forall_mem_cons.mp hst
  obtain ⟨hsa, hst⟩ := List.forall_mem_cons.mp hsta
  refine lv_iand hx hb hd ?_
  rw [i32_and31]
  exact k l G p e R s m args below meth c H locs cells slots lsr C hL (List.forall_mem_cons.mpr ⟨⟨by omega, by omega⟩, hst⟩) hls hR hlo hbc hbs
theorem rr_iandN {d : Nat} {md : AbM} {bc bs pc pc' : Nat} {ls : List (Option AbV)} {st : List AbV} {h : AbH} {K : Option AbV → AbH → Prop} {a b : Int} (hd : decode (mC md) pc = .ok (.iand, 1)) (hp : pc + 1 = pc') (hr : 0 ≤ a ∧ 0 ≤ b) (k : Vx d md bc bs pc' ls (vI ((a.toNat &&& b.toNat : Nat) : Int) :: st) h K) : Vx d md bc bs pc ls (vI b :: vI a :: st) h K := by
  intro l G p e R s m args below meth c H locs cells slots lsr C hL hst hls hR hlo hbc hbs
  have C0 := C
  obtain ⟨hx, hb, hml, hret, hown, hts, hlk, hnm, hKn, hd1, hd2, hRc, hRs⟩ := C0
  subst hp
  obtain ⟨hsb, hsta⟩ := List.forall_mem_cons.mp hst
  obtain ⟨hsa, hst⟩ := List.forall_mem_cons.mp hsta
  have hsa : in32 a := hsa
  have q1 : a.toNat &&& b.toNat ≤ a.toNat := Nat.and_le_left
  refine lv_iand hx hb hd ?_
  rw [i32_andN hr.1 hr.2 hsa hsb]
  exact k l G p e R s m args below meth c H locs cells slots lsr C hL (List.forall_mem_cons.mpr ⟨⟨by omega, by have := hsa.2; omega⟩, hst⟩) hls hR hlo hbc hbs
theorem i32_shr0 {a : Int} : Int32.ofInt a >>> (Int32.ofInt 0 &&& 31) = Int32.ofInt a := by
  have : Int32.ofInt 0 &&& 31 = 0 := by decide
  rw [this]
  simp
theorem i32_c {a : Int} (h0 : 0 ≤ a) (h1 : a < 65536) : ((Int32.ofInt a).toUInt32 % 65536).toInt32 = Int32.ofInt a := by
  apply Int32.toBitVec_inj.mp
  apply BitVec.eq_of_toNat_eq
  show (BitVec.ofInt 32 a % 65536#32).toNat = (BitVec.ofInt 32 a).toNat
  rw [BitVec.toNat_umod, BitVec.toNat_ofInt]
  have : (65536#32).toNat = 65536 := rfl
  rw [this]
  omega
theorem rr_ishr0 {d : Nat} {md : AbM} {bc bs pc pc' : Nat} {ls : List (Option AbV)} {st : List AbV} {h : AbH} {K : Option AbV → AbH → Prop} {a : Int} (hd : decode (mC md) pc = .ok (.ishr, 1)) (hp : pc + 1 = pc')  (k : Vx d md bc bs pc' ls (vI a :: st) h K) : Vx d md bc bs pc ls (vI 0 :: vI a :: st) h K := by
  intro l G p e R s m args below meth c H locs cells slots lsr C hL hst hls hR hlo hbc hbs
  have C0 := C
  obtain ⟨hx, hb, hml, hret, hown, hts, hlk, hnm, hKn, hd1, hd2, hRc, hRs⟩ := C0
  subst hp
  obtain ⟨hsb, hsta⟩ := List.forall_mem_cons.mp hst
  obtain ⟨hsa, hst⟩ := List.forall_mem_cons.mp hsta
  refine lv_ishr hx hb hd ?_
  rw [i32_shr0]
  exact k l G p e R s m args below meth c H locs cells slots lsr C hL (List.forall_mem_cons.mpr ⟨hsa, hst⟩) hls hR hlo hbc hbs
theorem rr_i2c {d : Nat} {md : AbM} {bc bs pc pc' : Nat} {ls : List (Option AbV)} {st : List AbV} {h : AbH} {K : Option AbV → AbH → Prop} {a : Int} (hd : decode (mC md) pc = .ok (.i2c, 1)) (hp : pc + 1 = pc') (hr : 0 ≤ a ∧ a < 65536) (k : Vx d md bc bs pc' ls (vI a :: st) h K) : Vx d md bc bs pc ls (vI a :: st) h K := by
  intro l G p e R s m args below meth c H locs cells slots lsr C hL hst hls hR hlo hbc hbs
  have C0 := C
  obtain ⟨hx, hb, hml, hret, hown, hts, hlk, hnm, hKn, hd1, hd2, hRc, hRs⟩ := C0
  subst hp
  refine lv_i2c hx hb hd (v := Int32.ofInt a) (i32_c hr.1 hr.2) ?_
  exact k l G p e R s m args below meth c H locs cells slots lsr C hL (hst) hls hR hlo hbc hbs
def st_int (j i : Nat) : Int := ((st_byt.getD j []).getD i 0).toInt
def wpSV (h : AbH) (q : Option Nat) (f : Option Nat → Prop) : Prop := ∃ (a j : Nat), q = some a ∧ hpS h a j ∧ ∀ b, hpB h b j → f (some b)
def wpSC (h : AbH) (q : Option Nat) (f : Int → Prop) : Prop := ∃ (a j : Nat), q = some a ∧ hpS h a j ∧ f 0
def wpNB (h : AbH) (q : Option Nat) (f : Int → Prop) : Prop := ∃ (b j : Nat), q = some b ∧ hpB h b j ∧ f (st_len.getD j 0 : Nat)
def wpLB (h : AbH) (q : Option Nat) (i : Int) (f : Int → Prop) : Prop := ∃ (b j : Nat), q = some b ∧ hpB h b j ∧ 0 ≤ i ∧ i < (st_len.getD j 0 : Nat) ∧ f (st_int j i.toNat)
theorem Rl.kept0 {G : AbG} {h : AbH} {H : Heap} (R : Rl G h H) : ∀ a : Nat, a < (gH G).size → ¬ (fun q => (gH G).size ≤ q) a → H[a]? = (gH G)[a]? := fun a ha _ => R.2.2.2.2.2 a ha
theorem rr_ldcS {d : Nat} {md : AbM} {bc bs pc pc' : Nat} {ls : List (Option AbV)} {st : List AbV} {h : AbH} {K : Option AbV → AbH → Prop} {i : Nat} (j : Nat) (hj : j < 4) (hi : st_idx.getD j 0 = i) (hd : decode (mC md) pc = .ok (.ldc i, 2)) (hp : pc + 2 = pc') (ho : (mY md).cls = RX5) (k : ∀ a, hpS h a j → Vx d md bc bs pc' ls (vR (some a) :: st) h K) : Vx d md bc bs pc ls st h K := by
  intro l G p e R s m args below meth c H locs cells slots lsr C hL hst hls hR hlo hbc hbs
  have C0 := C
  obtain ⟨hx, hb, hml, hret, hown, hts, hlk, hnm, hKn, hd1, hd2, hRc, hRs⟩ := C0
  subst hp; subst hi
  rw [ho] at hown
  refine va_ldcS hx hb hown (hKn.2.2.2.1 j hj) hd ?_
  exact k (gK G j) (by rw [hR.2.2.2.1.2.1]; exact ⟨hj, rfl⟩) l G p e R s m args below meth c H locs cells slots lsr C hL (List.forall_mem_cons.mpr ⟨trivial, hst⟩) hls hR hlo hbc hbs
theorem rr_strV {d : Nat} {md : AbM} {bc bs pc pc' : Nat} {ls : List (Option AbV)} {st : List AbV} {h : AbH} {K : Option AbV → AbH → Prop} {q : Option Nat} {i : Nat} {f : Option Nat → Prop} (hd : decode (mC md) pc = .ok (.getfield i, 3)) (hp : pc + 3 = pc') (hw : Cond.fieldLink (mY md).cls i "java/lang/String" "value" "[B" ∈ lwW) (hh : wpSV h q f) (k : ∀ n, f n → Vx d md bc bs pc' ls (vR n :: st) h K) : Vx d md bc bs pc ls (vR q :: st) h K := by
  intro l G p e R s m args below meth c H locs cells slots lsr C hL hst hls hR hlo hbc hbs
  have C0 := C
  obtain ⟨hx, hb, hml, hret, hown, hts, hlk, hnm, hKn, hd1, hd2, hRc, hRs⟩ := C0
  subst hp
  obtain ⟨a, j, rfl, ha, hf⟩ := hh
  rw [hR.2.2.2.1.2.1] at ha
  obtain ⟨hj, rfl⟩ := ha
  obtain ⟨cf, kf, fi, f0, cell, g1, g2, g3, g4, g5, -⟩ := ((hKn.2.2.2.2.1.1 j hj).2.2.1).kept hR.kept0
  refine W.getf hx hb hown (hts _ hw) g1 g2 g3 g4 g5 rfl rfl hd ?_
  exact k _ (hf (gV G j) (by rw [hR.2.2.2.1.2.2]; exact ⟨hj, rfl⟩)) l G p e R s m args below meth c H locs cells slots lsr C hL (List.forall_mem_cons.mpr ⟨trivial, fun w hw => hst w (List.mem_cons_of_mem _ hw)⟩) hls hR hlo hbc hbs
theorem rr_strC {d : Nat} {md : AbM} {bc bs pc pc' : Nat} {ls : List (Option AbV)} {st : List AbV} {h : AbH} {K : Option AbV → AbH → Prop} {q : Option Nat} {i : Nat} {f : Int → Prop} (hd : decode (mC md) pc = .ok (.getfield i, 3)) (hp : pc + 3 = pc') (hw : Cond.fieldLink (mY md).cls i "java/lang/String" "coder" "B" ∈ lwW) (hh : wpSC h q f) (k : ∀ n, f n → Vx d md bc bs pc' ls (vI n :: st) h K) : Vx d md bc bs pc ls (vR q :: st) h K := by
  intro l G p e R s m args below meth c H locs cells slots lsr C hL hst hls hR hlo hbc hbs
  have C0 := C
  obtain ⟨hx, hb, hml, hret, hown, hts, hlk, hnm, hKn, hd1, hd2, hRc, hRs⟩ := C0
  subst hp
  obtain ⟨a, j, rfl, ha, hf⟩ := hh
  rw [hR.2.2.2.1.2.1] at ha
  obtain ⟨hj, rfl⟩ := ha
  obtain ⟨cf, kf, fi, f0, cell, g1, g2, g3, g4, g5, -⟩ := ((hKn.2.2.2.2.1.1 j hj).2.1).kept hR.kept0
  refine W.getf hx hb hown (hts _ hw) g1 g2 g3 g4 g5 rfl rfl hd ?_
  exact k _ hf l G p e R s m args below meth c H locs cells slots lsr C hL (List.forall_mem_cons.mpr ⟨i32_0, fun w hw => hst w (List.mem_cons_of_mem _ hw)⟩) hls hR hlo hbc hbs
theorem rr_getsC {d : Nat} {md : AbM} {bc bs pc pc' : Nat} {ls : List (Option AbV)} {st : List AbV} {h : AbH} {K : Option AbV → AbH → Prop} {i : Nat} (hd : decode (mC md) pc = .ok (.getstatic i, 3)) (hp : pc + 3 = pc') (hw : Cond.fieldLink (mY md).cls i "java/lang/String" "COMPACT_STRINGS" "Z" ∈ lwW) (k : Vx d md bc bs pc' ls (vI 1 :: st) h K) : Vx d md bc bs pc ls st h K := by
  intro l G p e R s m args below meth c H locs cells slots lsr C hL hst hls hR hlo hbc hbs
  have C0 := C
  obtain ⟨hx, hb, hml, hret, hown, hts, hlk, hnm, hKn, hd1, hd2, hRc, hRs⟩ := C0
  subst hp
  obtain ⟨cf, kf, fi, f0, a, cell, g1, g2, g3, g4, g5, g6, g7, -⟩ := (hKn.2.2.2.2.2.1).kept hR.kept0
  refine W.gets hx hb hown (hts _ hw) g1 g2 g3 g4 g5 (fun z => by rw [z] at g6; cases g6) g7 rfl hd ?_
  exact k l G p e R s m args below meth c H locs cells slots lsr C hL (List.forall_mem_cons.mpr ⟨⟨by decide, by decide⟩, hst⟩) hls hR hlo hbc hbs
theorem rr_getsF {d : Nat} {md : AbM} {bc bs pc pc' : Nat} {ls : List (Option AbV)} {st : List AbV} {h : AbH} {K : Option AbV → AbH → Prop} {i : Nat} (hd : decode (mC md) pc = .ok (.getstatic i, 3)) (hp : pc + 3 = pc') (hw : Cond.fieldLink (mY md).cls i "jdk/internal/util/Preconditions" "SIOOBE_FORMATTER" "Ljava/util/function/BiFunction;" ∈ lwW) (k : ∀ r, Vx d md bc bs pc' ls (vR r :: st) h K) : Vx d md bc bs pc ls st h K := by
  intro l G p e R s m args below meth c H locs cells slots lsr C hL hst hls hR hlo hbc hbs
  have C0 := C
  obtain ⟨hx, hb, hml, hret, hown, hts, hlk, hnm, hKn, hd1, hd2, hRc, hRs⟩ := C0
  subst hp
  rcases (hKn.2.2.2.2.2.2.1).kept hR.kept0 with g | ⟨t, g⟩
  · obtain ⟨cf, kf, fi, f0, a, cell, g1, g2, g3, g4, g5, g6, g7, -⟩ := g
    refine W.gets hx hb hown (hts _ hw) g1 g2 g3 g4 g5 (fun z => by rw [z] at g6; cases g6) g7 rfl hd ?_
    exact k none l G p e R s m args below meth c H locs cells slots lsr C hL (List.forall_mem_cons.mpr ⟨trivial, hst⟩) hls hR hlo hbc hbs
  · obtain ⟨cf, kf, fi, f0, a, cell, g1, g2, g3, g4, g5, g6, g7, -⟩ := g
    refine W.gets hx hb hown (hts _ hw) g1 g2 g3 g4 g5 (fun z => by rw [z] at g6; cases g6) g7 rfl hd ?_
    exact k (some t) l G p e R s m args below meth c H locs cells slots lsr C hL (List.forall_mem_cons.mpr ⟨trivial, hst⟩) hls hR hlo hbc hbs
theorem st_small : ∀ j, j < 4 → st_len.getD j 0 < 100 ∧ ∀ i, i < st_len.getD j 0 → 0 ≤ st_int j i ∧ st_int j i < 128 := by decide +kernel
theorem rr_alenB {d : Nat} {md : AbM} {bc bs pc pc' : Nat} {ls : List (Option AbV)} {st : List AbV} {h : AbH} {K : Option AbV → AbH → Prop} {q : Option Nat} {f : Int → Prop} (hd : decode (mC md) pc = .ok (.arraylength, 1)) (hp : pc + 1 = pc') (hh : wpNB h q f) (k : ∀ n, f n → Vx d md bc bs pc' ls (vI n :: st) h K) : Vx d md bc bs pc ls (vR q :: st) h K := by
  intro l G p e R s m args below meth c H locs cells slots lsr C hL hst hls hR hlo hbc hbs
  have C0 := C
  obtain ⟨hx, hb, hml, hret, hown, hts, hlk, hnm, hKn, hd1, hd2, hRc, hRs⟩ := C0
  subst hp
  obtain ⟨a, j, rfl, ha, hf⟩ := hh
  rw [hR.2.2.2.1.2.2] at ha
  obtain ⟨hj, rfl⟩ := ha
  obtain ⟨cell, g1, g2, g3, g4, g5, g6, -⟩ := ((hKn.2.2.2.2.1.1 j hj).2.2.2).kept hR.kept0
  have hs := (st_small j hj).1
  refine W.alen (n := Int32.ofInt ((st_len.getD j 0 : Nat) : Int)) hx hb g1 g2 (by rw [g5]; rfl) rfl rfl hd ?_
  exact k _ hf l G p e R s m args below meth c H locs cells slots lsr C hL (List.forall_mem_cons.mpr ⟨i32_ofNat (by omega), fun w hw => hst w (List.mem_cons_of_mem _ hw)⟩) hls hR hlo hbc hbs
theorem rr_bald {d : Nat} {md : AbM} {bc bs pc pc' : Nat} {ls : List (Option AbV)} {st : List AbV} {h : AbH} {K : Option AbV → AbH → Prop} {q : Option Nat} {i : Int} {f : Int → Prop} (hd : decode (mC md) pc = .ok (.baload, 1)) (hp : pc + 1 = pc') (hh : wpLB h q i f) (k : ∀ n, f n → Vx d md bc bs pc' ls (vI n :: st) h K) : Vx d md bc bs pc ls (vI i :: vR q :: st) h K := by
  intro l G p e R s m args below meth c H locs cells slots lsr C hL hst hls hR hlo hbc hbs
  have C0 := C
  obtain ⟨hx, hb, hml, hret, hown, hts, hlk, hnm, hKn, hd1, hd2, hRc, hRs⟩ := C0
  subst hp
  obtain ⟨a, j, rfl, ha, h0, h1, hf⟩ := hh
  rw [hR.2.2.2.1.2.2] at ha
  obtain ⟨hj, rfl⟩ := ha
  obtain ⟨hsi, hst⟩ := List.forall_mem_cons.mp hst
  have hsi : in32 i := hsi
  obtain ⟨cell, g1, g2, g3, g4, g5, g6, -⟩ := ((hKn.2.2.2.2.1.1 j hj).2.2.2).kept hR.kept0
  have hs := (st_small j hj).2 i.toNat (by omega)
  refine W.bald (v := .int ((st_byt.getD j []).getD i.toNat 0)) hx hb g1 g2 g3 (fun z => ?_) (by rw [i32_nat hsi]; exact g6 _ (by omega)) rfl rfl hd ?_
  · rcases z with z | z
    · rw [show (0 : Int32) = Int32.ofInt 0 from rfl, i32_lt hsi i32_0] at z
      omega
    · rw [i32_nat hsi] at z
      omega
  · have e1 : (st_byt.getD j []).getD i.toNat 0 = Int32.ofInt (st_int j i.toNat) := (Int32.ofInt_toInt _).symm
    rw [e1]
    exact k _ hf l G p e R s m args below meth c H locs cells slots lsr C hL (List.forall_mem_cons.mpr ⟨⟨by show _ ≤ st_int _ _; omega, by show st_int _ _ ≤ _; omega⟩, fun w hw => hst w (List.mem_cons_of_mem _ hw)⟩) hls hR hlo hbc hbs
theorem rr_callVS {d : Nat} {md : AbM} {bc bs pc pc' : Nat} {ls : List (Option AbV)} {st : List AbV} {h : AbH} {K : Option AbV → AbH → Prop} {md' : AbM} {av : List AbV} {bc' bs' i n : Nat} {K0 : Option AbV → AbH → Prop} {b j : Nat} (mf : MdF md' n) (hd : decode (mC md) pc = .ok (.invokevirtual i, 3)) (hp : pc + 3 = pc') (hw : Cond.methodLink (mY md).cls i (mY md') ∈ lwW) (hin : Cond.instanceMethod (mY md') ∈ lwW) (hse : Cond.selects (mY md').cls (mY md') (mY md') ∈ lwW) (hci : (mY md').cls = "java/lang/String") (hob : hpS h b j) (hlen : av.length = n) (hcs : ab_cs st ≤ 8) (hbc1 : bc' + mN md' ≤ bc) (hbs1 : bs' + mS md' ≤ bs) (hh : Vm d md' (vR (some b) :: av) h K0) (hK : ∀ r h', K0 r h' → Vx (d + 1) md bc' bs' pc' ls (r.toList ++ st) h' K) : Vx (d + 1) md bc bs pc ls (av.reverse ++ vR (some b) :: st) h K := by
  intro l G p e R s m args below meth c H locs cells slots lsr C9 hL hst hls hR hlo hbc hbs
  have C0 := C9
  obtain ⟨hx, hb, hml, hret, hown, hts, hlk, hnm, hKn, hd1, hd2, hRc, hRs⟩ := C0
  subst hp
  obtain ⟨mf1, mf2, mf3, mf4⟩ := mf
  rw [hR.2.2.2.1.2.1] at hob
  obtain ⟨hj, rfl⟩ := hob
  have hrc : ∃ cellB : Cell, H[gK G j]? = some cellB ∧ cellB.vm.isStatics = false ∧ s.vm.findClass (mY md').cls = some cellB.cls := by
    obtain ⟨cell, g1, g2, g3, -⟩ := ((hKn.2.2.2.2.1.1 j hj).1).kept hR.kept0
    exact ⟨cell, g1, g2, by rw [hci]; exact g3⟩
  generalize hbq : gK G j = b at *
  have hav : ∀ a ∈ vR (some b) :: av, ab_ok a := List.forall_mem_cons.mpr ⟨trivial, fun a ha => hst a (List.mem_append_left _ (List.mem_reverse.mpr ha))⟩
  have hst : ∀ w ∈ st, ab_ok w := fun w hw => hst w (List.mem_append_right _ (List.mem_cons_of_mem _ hw))
  have hrun := va_runV (H := H) (locs := locs) (cells := cells) (slots := slots) (e := e) (below := below) (meth := meth) (R := R) (b := b) (C := (mY md').cls) (As := av.map ab_cv) (rest := st.map ab_cv) (g := F0 m pc lsr ((av.reverse ++ vR (some b) :: st).map ab_cv)) (n := n) ⟨hx, hb, hml, hown, hts⟩ (hh l G) ⟨callB_of n hts (ab_good mf1) rfl rfl rfl (hts _ mf2) (hts _ hw) mf3 ⟨by show d + 1 ≤ R.frames; omega, by show 8 + (mL md' + 11) + 64 * d ≤ R.locals; omega⟩, hts _ hin, hts _ hse⟩ ⟨PcV.blind, hrc, fun U hU hW => ⟨rfl, hav, by rw [hU]; exact hR, hKn.warm hW⟩⟩ rfl (by rw [List.length_map]; exact hlen) hL.1 (by show (av.reverse ++ vR (some b) :: st).map ab_cv = _; rw [List.map_append, List.map_reverse]; rfl) (lv_room (by rw [List.map_map]; exact hcs)) hd ⟨by rw [hRc]; omega, by rw [hRs]; omega⟩
  intro T hT X
  obtain ⟨v, st₀, t, T', L, h0, X', hLf, e1, e2, ⟨r, h', hr, hrok, hR2, hK0⟩, stp⟩ := hrun T hT X
  cases hr
  have hR3 : Rl G h' T'.heap := by rw [e1]; exact hR2
  have hok2 : ∀ w ∈ r.toList ++ st, ab_ok w := fun w hw => by
    rcases List.mem_append.mp hw with z | z
    · cases r with
      | none => cases z
      | some a => exact hrok w (by rw [Option.toList_some, List.mem_singleton] at z; rw [z])
    · exact hst w z
  have hW := hK r h' hK0 l G p e R s m args below meth c T'.heap (locs ++ L) (cells + mN md') (slots + mS md') lsr C9 hL hok2 hls hR3 (fun x hx => by
    rcases List.mem_append.mp hx with z | z
    · exact hlo x z
    · exact hLf x z) (by omega) (by omega)
  obtain ⟨t2, a1, b1⟩ := hW T' rfl X'
  refine ⟨t2, stp t2 ?_, b1⟩
  have es : (r.map ab_cv).toList ++ st.map ab_cv = (r.toList ++ st).map ab_cv := by cases r <;> simp
  rw [es]
  exact a1
