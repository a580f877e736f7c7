/-! ===== labels by their 128 bits ===== -/
def lbt (h l : Int64) (p : Nat) : Bool := if p < 64 then l.toBitVec.getLsbD p else h.toBitVec.getLsbD (p - 64)
theorem byW_bit (h l : Int64) {b : Nat} (hb : b < 16) (i : Nat) : (byW h l b).testBit i = (decide (i < 8) && lbt h l (8 * (15 - b) + i)) := by
  unfold byW lbt
  by_cases hi : i < 8
  · by_cases h8 : b < 8
    · rw [if_pos h8, if_neg (by omega), lby_bit, show 8 * (15 - b) + i - 64 = 8 * (7 - b) + i by omega]
    · rw [if_neg h8, if_pos (by omega), lby_bit]
  · rw [decide_eq_false hi, Bool.false_and]
    split <;> rw [lby_bit, decide_eq_false hi, Bool.false_and]
theorem lbt_xor (h l h2 l2 : Int64) (p : Nat) : lbt (h ^^^ h2) (l ^^^ l2) p = (lbt h l p ^^ lbt h2 l2 p) := by
  unfold lbt
  split
  · rw [Int64.toBitVec_xor, BitVec.getLsbD_xor]
  · rw [Int64.toBitVec_xor, BitVec.getLsbD_xor]
theorem sh1 (x : Int64) {i : Nat} (hi : i < 64) : (jlshl x 1).toBitVec.getLsbD i = (decide (1 ≤ i) && x.toBitVec.getLsbD (i - 1)) := by
  show (x <<< ((1 : Int32).toInt64 &&& 63)).toBitVec.getLsbD i = _
  rw [Int64.toBitVec_shiftLeft, show (((1 : Int32).toInt64 &&& 63).toBitVec.smod 64) = 1#64 by decide]
  show (x.toBitVec <<< 1).getLsbD i = _
  rw [BitVec.getLsbD_shiftLeft]
  by_cases h : 1 ≤ i
  · simp [h, hi, show ¬ i < 1 by omega]
  · simp [h, hi, show i < 1 by omega]
theorem sh8 (x : Int64) {i : Nat} (hi : i < 64) : (jlshl x 8).toBitVec.getLsbD i = (decide (8 ≤ i) && x.toBitVec.getLsbD (i - 8)) := by
  show (x <<< ((8 : Int32).toInt64 &&& 63)).toBitVec.getLsbD i = _
  rw [Int64.toBitVec_shiftLeft, show (((8 : Int32).toInt64 &&& 63).toBitVec.smod 64) = 8#64 by decide]
  show (x.toBitVec <<< 8).getLsbD i = _
  rw [BitVec.getLsbD_shiftLeft]
  by_cases h : 8 ≤ i
  · simp [h, hi, show ¬ i < 8 by omega]
  · simp [h, hi, show i < 8 by omega]
theorem us63 (x : Int64) {i : Nat} : (jlushr x 63).toBitVec.getLsbD i = (decide (i = 0) && x.toBitVec.getLsbD 63) := by
  have e : (jlushr x 63).toBitVec.toNat = x.toBitVec.toNat / 2 ^ 63 := jlushr_toNat x (k := 63) (by decide)
  rw [← BitVec.testBit_toNat, e, Nat.testBit_div_two_pow, BitVec.testBit_toNat]
  by_cases h : i = 0
  · subst h
    rw [decide_eq_true rfl, Bool.true_and]
  · rw [decide_eq_false h, Bool.false_and]
    exact BitVec.getLsbD_of_ge _ _ (by omega)
theorem neg_bit (h : Int64) : (0 ≤ lg_cmp h 0) ↔ h.toBitVec.getLsbD 63 = false := by
  have e : h.toBitVec.getLsbD 63 = h.toBitVec.msb := (BitVec.msb_eq_getLsbD_last _).symm
  have c : h.toInt < 0 ↔ h.toBitVec.msb = true := by
    rw [BitVec.msb_eq_toInt]
    show h.toInt < 0 ↔ decide (h.toInt < 0) = true
    exact decide_eq_true_iff.symm
  rw [e]
  unfold lg_cmp
  by_cases h1 : h > 0
  · rw [if_pos h1]
    have h2 : (0 : Int64).toInt < h.toInt := Int64.lt_iff_toInt_lt.mp h1
    rw [show (0 : Int64).toInt = 0 by decide] at h2
    constructor
    · intro _
      cases hm : h.toBitVec.msb
      · rfl
      · exact absurd (c.mpr hm) (by omega)
    · intro _; decide
  · rw [if_neg h1]
    by_cases h2 : h = 0
    · subst h2
      rw [if_pos rfl]
      decide
    · rw [if_neg h2]
      constructor
      · intro h; exact absurd h (by decide)
      · intro hm
        exfalso
        have h3 : ¬ (0 : Int64).toInt < h.toInt := fun z => h1 (Int64.lt_iff_toInt_lt.mpr z)
        rw [show (0 : Int64).toInt = 0 by decide] at h3
        have h4 : h.toInt ≠ 0 := fun z => h2 (Int64.toInt_inj.mp (z.trans (by decide)))
        have h5 := c.mp (by omega)
        rw [hm] at h5
        exact absurd h5 (by decide)
theorem b135 : ∀ i, i < 64 → (135 : Int32).toInt64.toBitVec.getLsbD i = (135 : Nat).testBit i := by decide +kernel
theorem b0_64 : ∀ i, i < 64 → (0 : Int32).toInt64.toBitVec.getLsbD i = false := by decide +kernel
theorem lbD_bit (h l : Int64) {p : Nat} (hp : p < 128) : lbt (lbD h l).1 (lbD h l).2 p = ((decide (1 ≤ p) && lbt h l (p - 1)) ^^ (lbt h l 127 && (135 : Nat).testBit p)) := by
  have h127 : lbt h l 127 = h.toBitVec.getLsbD 63 := by unfold lbt; rw [if_neg (by decide)]
  rw [h127]
  by_cases h64 : p < 64
  · unfold lbt
    rw [if_pos h64, if_pos (show p - 1 < 64 by omega)]
    show (jlshl l 1 ^^^ (if 0 ≤ lg_cmp h 0 then (0 : Int32) else 135).toInt64).toBitVec.getLsbD p = _
    rw [Int64.toBitVec_xor, BitVec.getLsbD_xor, sh1 _ h64]
    congr 1
    by_cases hn : 0 ≤ lg_cmp h 0
    · rw [if_pos hn, (neg_bit h).mp hn, Bool.false_and]
      exact b0_64 p h64
    · rw [if_neg hn]
      have : h.toBitVec.getLsbD 63 = true := by
        cases e : h.toBitVec.getLsbD 63
        · exact absurd ((neg_bit h).mpr e) hn
        · rfl
      rw [this, Bool.true_and]
      exact b135 p h64
  · have t : (135 : Nat).testBit p = false := Nat.testBit_lt_two_pow (Nat.lt_of_lt_of_le (show 135 < 2 ^ 64 by decide) (Nat.pow_le_pow_right (by decide) (by omega)))
    rw [t, Bool.and_false, Bool.xor_false]
    unfold lbt
    rw [if_neg h64]
    show (jlshl h 1 ||| jlushr l 63).toBitVec.getLsbD (p - 64) = _
    rw [Int64.toBitVec_or, BitVec.getLsbD_or, sh1 _ (by omega), us63]
    by_cases e : p = 64
    · subst e
      simp
    · rw [if_neg (by omega), decide_eq_false (show ¬ p - 64 = 0 by omega), Bool.false_and, Bool.or_false, decide_eq_true (show 1 ≤ p - 64 by omega), decide_eq_true (show 1 ≤ p by omega), show p - 64 - 1 = p - 1 - 64 by omega]
theorem bit8 {a b : Nat} (ha : a < 256) (hb : b < 256) (h : ∀ i, i < 8 → a.testBit i = b.testBit i) : a = b := by
  apply Nat.eq_of_testBit_eq
  intro i
  by_cases hi : i < 8
  · exact h i hi
  · rw [Nat.testBit_lt_two_pow (Nat.lt_of_lt_of_le ha (show 2 ^ 8 ≤ 2 ^ i from Nat.pow_le_pow_right (by decide) (by omega))), Nat.testBit_lt_two_pow (Nat.lt_of_lt_of_le hb (show 2 ^ 8 ≤ 2 ^ i from Nat.pow_le_pow_right (by decide) (by omega)))]
/-- what the reference's doubling makes of bytes -/
def dbB (f : Nat → Nat) (j : Nat) : Nat := (f j * 2 ^ 1 &&& 255) ||| (if j < 15 then f (j + 1) / 2 ^ 7 else 0)
theorem t255 (i : Nat) : (255 : Nat).testBit i = decide (i < 8) := Nat.testBit_two_pow_sub_one 8 i
theorem dbB_B {f : Nat → Nat} {h l : Int64} (hf : ∀ j, j < 16 → f j = byW h l j) {j : Nat} (hj : j < 16) : (if j = 15 then dbB f 15 ^^^ (if f 0 / 2 ^ 7 = 1 then 135 else 0) else dbB f j) = byW (lbD h l).1 (lbD h l).2 j := by
  have t7 : ∀ j, j < 16 → f j / 2 ^ 7 = (lbt h l (8 * (15 - j) + 7)).toNat := by
    intro j hj
    rw [hf j hj]
    have hlt := byW_lt h l j
    have hb := byW_bit h l hj 7
    rw [decide_eq_true (show 7 < 8 by decide), Bool.true_and] at hb
    rw [← hb, Nat.testBit_eq_decide_div_mod_eq]
    have : byW h l j / 2 ^ 7 = 0 ∨ byW h l j / 2 ^ 7 = 1 := by omega
    rcases this with e | e <;> rw [e] <;> rfl
  have key : ∀ j, j < 16 → ∀ i, i < 8 → (dbB f j).testBit i = (decide (1 ≤ 8 * (15 - j) + i) && lbt h l (8 * (15 - j) + i - 1)) := by
    intro j hj i hi
    unfold dbB
    rw [Nat.testBit_or, Nat.testBit_and, t255, decide_eq_true hi, Bool.and_true, Nat.testBit_mul_two_pow, hf j hj]
    by_cases h0 : i = 0
    · subst h0
      rw [decide_eq_false (show ¬ 1 ≤ 0 by decide), Bool.false_and, Bool.false_or]
      by_cases h15 : j < 15
      · rw [if_pos h15, t7 _ (by omega), decide_eq_true (show 1 ≤ 8 * (15 - j) + 0 by omega), Bool.true_and, show 8 * (15 - j) + 0 - 1 = 8 * (15 - (j + 1)) + 7 by omega]
        cases lbt h l (8 * (15 - (j + 1)) + 7) <;> rfl
      · rw [if_neg h15, decide_eq_false (show ¬ 1 ≤ 8 * (15 - j) + 0 by omega), Bool.false_and]
        rfl
    · rw [decide_eq_true (show 1 ≤ i by omega), Bool.true_and, byW_bit h l hj, decide_eq_true (show i - 1 < 8 by omega), Bool.true_and, decide_eq_true (show 1 ≤ 8 * (15 - j) + i by omega), Bool.true_and, show 8 * (15 - j) + i - 1 = 8 * (15 - j) + (i - 1) by omega]
      have z : (if j < 15 then f (j + 1) / 2 ^ 7 else 0).testBit i = false := by
        split
        · rw [t7 _ (by omega)]
          apply Nat.testBit_lt_two_pow
          refine Nat.lt_of_lt_of_le (Bool.toNat_lt _) (show 2 ^ 1 ≤ 2 ^ i from Nat.pow_le_pow_right (by decide) (by omega))
        · exact Nat.zero_testBit i
      rw [z, Bool.or_false]
  have lt : ∀ j, j < 16 → dbB f j < 256 := by
    intro j hj
    unfold dbB
    refine Nat.or_lt_two_pow (n := 8) (Nat.lt_of_le_of_lt Nat.and_le_right (by decide)) ?_
    split
    · rw [t7 _ (by omega)]
      exact Nat.lt_trans (Bool.toNat_lt _) (by decide)
    · decide
  by_cases e : j = 15
  · subst e
    rw [if_pos rfl]
    apply bit8
    · refine Nat.xor_lt_two_pow (n := 8) (lt 15 (by decide)) ?_
      split <;> decide
    · exact byW_lt _ _ _
    · intro i hi
      rw [Nat.testBit_xor, key 15 (by decide) i hi, byW_bit _ _ (by decide), decide_eq_true hi, Bool.true_and, show 8 * (15 - 15) + i = i by omega, lbD_bit _ _ (by omega), t7 0 (by decide)]
      congr 1
      show (if (lbt h l 127).toNat = 1 then 135 else 0).testBit i = _
      cases lbt h l 127
      · rw [if_neg (by decide), Nat.zero_testBit, Bool.false_and]
      · rw [if_pos (show true.toNat = 1 from rfl), Bool.true_and]
  · rw [if_neg e]
    apply bit8 (lt j hj) (byW_lt _ _ _)
    intro i hi
    rw [key j hj i hi, byW_bit _ _ hj, decide_eq_true hi, Bool.true_and, lbD_bit _ _ (by omega)]
    have t : (135 : Nat).testBit (8 * (15 - j) + i) = false := Nat.testBit_lt_two_pow (Nat.lt_of_lt_of_le (show 135 < 2 ^ 8 by decide) (Nat.pow_le_pow_right (by decide) (by omega)))
    rw [t, Bool.and_false, Bool.xor_false]
theorem byW_ext {h l h2 l2 : Int64} (H : ∀ j, j < 16 → byW h l j = byW h2 l2 j) : h = h2 ∧ l = l2 := by
  have k : ∀ p, p < 128 → lbt h l p = lbt h2 l2 p := by
    intro p hp
    have := congrArg (fun n => n.testBit (p % 8)) (H (15 - p / 8) (by omega))
    simp only [byW_bit _ _ (show 15 - p / 8 < 16 by omega), decide_eq_true (show p % 8 < 8 by omega), Bool.true_and] at this
    rw [show 8 * (15 - (15 - p / 8)) + p % 8 = p by omega] at this
    exact this
  constructor
  · apply Int64.toBitVec_inj.mp
    apply BitVec.eq_of_getLsbD_eq
    intro i hi
    have := k (i + 64) (by omega)
    unfold lbt at this
    rw [if_neg (by omega), if_neg (by omega), Nat.add_sub_cancel] at this
    exact this
  · apply Int64.toBitVec_inj.mp
    apply BitVec.eq_of_getLsbD_eq
    intro i hi
    have := k i (by omega)
    unfold lbt at this
    rw [if_pos hi, if_pos hi] at this
    exact this
theorem lbD_xor (h l h2 l2 : Int64) {j : Nat} (hj : j < 16) : byW (lbD (h ^^^ h2) (l ^^^ l2)).1 (lbD (h ^^^ h2) (l ^^^ l2)).2 j = byW (lbD h l).1 (lbD h l).2 j ^^^ byW (lbD h2 l2).1 (lbD h2 l2).2 j := by
  apply bit8 (byW_lt _ _ _) (Nat.xor_lt_two_pow (n := 8) (byW_lt _ _ _) (byW_lt _ _ _))
  intro i hi
  rw [Nat.testBit_xor, byW_bit _ _ hj, byW_bit _ _ hj, byW_bit _ _ hj, decide_eq_true hi, Bool.true_and, Bool.true_and, Bool.true_and, lbD_bit _ _ (by omega), lbD_bit _ _ (by omega), lbD_bit _ _ (by omega), lbt_xor, lbt_xor]
  generalize decide (1 ≤ 8 * (15 - j) + i) = a
  generalize lbt h l (8 * (15 - j) + i - 1) = b
  generalize lbt h2 l2 (8 * (15 - j) + i - 1) = c
  generalize lbt h l 127 = d
  generalize lbt h2 l2 127 = e
  generalize Nat.testBit 135 (8 * (15 - j) + i) = f
  cases a <;> cases b <;> cases c <;> cases d <;> cases e <;> cases f <;> rfl
/-- the tweak's bytes -/
theorem hK_B (h l : Int64) (v : Int32) {j : Nat} (hj : j < 16) : byW h (hK l v) j = if 12 ≤ j then byW h l j ^^^ b32 v (j - 12) else byW h l j := by
  have b : ∀ p, p < 64 → (hK l v).toBitVec.getLsbD p = (l.toBitVec.getLsbD p ^^ (decide (p < 32) && bt v p)) := by
    intro p hp
    unfold hK
    rw [Int64.toBitVec_xor, BitVec.getLsbD_xor, Int64.toBitVec_and, BitVec.getLsbD_and, m32 p hp]
    by_cases h : p < 32
    · rw [decide_eq_true h, Bool.and_true, Bool.true_and, sx_lo _ h]
    · rw [decide_eq_false h, Bool.and_false, Bool.false_and]
  apply bit8 (byW_lt _ _ _)
  · split
    · exact Nat.xor_lt_two_pow (n := 8) (byW_lt _ _ _) (Nat.mod_lt _ (by decide))
    · exact byW_lt _ _ _
  · intro i hi
    rw [byW_bit _ _ hj, decide_eq_true hi, Bool.true_and]
    by_cases h12 : 12 ≤ j
    · rw [if_pos h12, Nat.testBit_xor, byW_bit _ _ hj, b32_bit, decide_eq_true hi, Bool.true_and, Bool.true_and]
      unfold lbt
      rw [if_pos (by omega), if_pos (by omega), b _ (by omega), decide_eq_true (show 8 * (15 - j) + i < 32 by omega), Bool.true_and, show 8 * (3 - (j - 12)) + i = 8 * (15 - j) + i by omega]
    · rw [if_neg h12, byW_bit _ _ hj, decide_eq_true hi, Bool.true_and]
      unfold lbt
      by_cases h64 : 8 * (15 - j) + i < 64
      · rw [if_pos h64, if_pos h64, b _ h64, decide_eq_false (show ¬ 8 * (15 - j) + i < 32 by omega), Bool.false_and, Bool.xor_false]
      · rw [if_neg h64, if_neg h64]
theorem lbc_B (h l : Int64) : lbc l = byW h l 15 % 2 := by
  show l.toBitVec.toNat % 2 = l.toBitVec.toNat / 2 ^ (8 * (15 - 15)) % 256 % 2
  rw [Nat.mod_mod_of_dvd _ (by decide)]
  simp
theorem zx_B (b : Int32) (z y d e : Int64) (j : Nat) : byW (zx b z d) (zx b y e) j = if b = 1 then byW z y j ^^^ byW d e j else byW z y j := by
  unfold zx
  split
  · exact byW_xor _ _ _ _ _
  · rfl
/-- the word of eight bytes -/
theorem w8_lt (t : Nat → Nat) (p : Nat) (ht : ∀ j, t j < 256) : ∀ k, k ≤ 8 → ∀ i, i < k → lby (w8 t p k) i = t (p + (k - 1 - i))
  | 0, _, i, hi => absurd hi (by omega)
  | k + 1, hk, i, hi => by
    have nb : ∀ q, q < 64 → (nI (t (p + k))).toInt64.toBitVec.getLsbD q = (decide (q < 8) && (t (p + k)).testBit q) := by
      intro q hq
      have h8 := ht (p + k)
      have e : (nI (t (p + k))).toInt64 = Int64.ofNat (t (p + k)) := by
        apply Int64.toInt_inj.mp
        rw [Int32.toInt_toInt64, nI_toInt (by omega), Int64.toInt_ofNat_of_lt (by omega)]
      rw [e]
      show (BitVec.ofNat 64 (t (p + k))).getLsbD q = _
      rw [BitVec.getLsbD_ofNat, decide_eq_true hq, Bool.true_and]
      by_cases h : q < 8
      · rw [decide_eq_true h, Bool.true_and]
      · rw [decide_eq_false h, Bool.false_and]
        exact Nat.testBit_lt_two_pow (Nat.lt_of_lt_of_le h8 (show 2 ^ 8 ≤ 2 ^ q from Nat.pow_le_pow_right (by decide) (by omega)))
    apply bit8 (lby_lt _ _) (ht _)
    intro q hq
    rw [lby_bit, decide_eq_true hq, Bool.true_and]
    show (jlshl (w8 t p k) 8 ||| (nI (t (p + k))).toInt64).toBitVec.getLsbD (8 * i + q) = _
    rw [Int64.toBitVec_or, BitVec.getLsbD_or, sh8 _ (by omega), nb _ (by omega)]
    cases i with
    | zero =>
      rw [decide_eq_false (show ¬ 8 ≤ 8 * 0 + q by omega), Bool.false_and, Bool.false_or, decide_eq_true (show 8 * 0 + q < 8 by omega), Bool.true_and, show 8 * 0 + q = q by omega, show k + 1 - 1 - 0 = k by omega]
    | succ i =>
      rw [decide_eq_true (show 8 ≤ 8 * (i + 1) + q by omega), Bool.true_and, decide_eq_false (show ¬ 8 * (i + 1) + q < 8 by omega), Bool.false_and, Bool.or_false, show 8 * (i + 1) + q - 8 = 8 * i + q by omega]
      have ih := w8_lt t p ht k (by omega) i (by omega)
      have := lby_bit (w8 t p k) i q
      rw [ih, decide_eq_true hq, Bool.true_and] at this
      rw [← this, show k + 1 - 1 - (i + 1) = k - 1 - i by omega]
theorem w8_B (t : Nat → Nat) (p : Nat) (ht : ∀ j, t j < 256) {j : Nat} (hj : j < 16) : byW (w8 t p 8) (w8 t (p + 8) 8) j = t (p + j) := by
  unfold byW
  split
  · rw [w8_lt t p ht 8 (by decide) _ (by omega), show 8 - 1 - (7 - j) = j by omega]
  · rw [w8_lt t (p + 8) ht 8 (by decide) _ (by omega), show p + 8 + (8 - 1 - (15 - j)) = p + j by omega]
/-! ===== the round keys by bytes ===== -/
def pw : Nat → Nat
  | 0 => 1
  | m + 1 => if (4 + m) % 4 = 0 then x2 (pw m) else pw m
theorem pw_lt : ∀ m, pw m < 256
  | 0 => by decide
  | m + 1 => by
    unfold pw
    split
    · exact x2_lt _ (pw_lt m)
    · exact pw_lt m
theorem pw_x2 : ∀ a, a < 256 → (if (128 : Int32) ≤ nI a then jshl (nI a) 1 ^^^ 283 else jshl (nI a) 1) = nI (x2 a) := by decide +kernel
theorem ek_p (f : Nat → Int32) : ∀ m, (ek f m).2 = nI (pw m)
  | 0 => rfl
  | m + 1 => by
    unfold ek pw
    by_cases h : (4 + m) % 4 = 0
    · rw [if_pos h, if_pos h]
      show (if (128 : Int32) ≤ (ek f m).2 then jshl (ek f m).2 1 ^^^ 283 else jshl (ek f m).2 1) = _
      rw [ek_p f m]
      exact pw_x2 _ (pw_lt m)
    · rw [if_neg h, if_neg h]
      exact ek_p f m
theorem b32_p24 {a : Nat} (ha : a < 256) {r : Nat} (hr : r < 4) : b32 (jshl (nI a) 24) r = if r = 0 then a else 0 := by
  rw [show jshl (nI a) 24 = nI (a * 2 ^ 24) from jshl_nI a (k := 24) (by decide)]
  unfold b32
  show (BitVec.ofNat 32 (a * 2 ^ 24)).toNat / 2 ^ (8 * (3 - r)) % 256 = _
  rw [BitVec.toNat_ofNat]
  match r, hr with
  | 0, _ => simp only [Nat.reduceMul, Nat.reduceSub, Nat.reducePow, if_true]; omega
  | 1, _ => simp only [Nat.reduceMul, Nat.reduceSub, Nat.reducePow, Nat.reduceEqDiff, if_false]; omega
  | 2, _ => simp only [Nat.reduceMul, Nat.reduceSub, Nat.reducePow, Nat.reduceEqDiff, if_false]; omega
  | 3, _ => simp only [Nat.reduceMul, Nat.reduceSub, Nat.reducePow, Nat.reduceEqDiff, if_false]; omega
  | r + 4, h => exact absurd h (by omega)
theorem upd_at (f : Nat → Int32) (x : Nat) (v : Int32) : upd f x v x = v := if_pos rfl
theorem upd_ne (f : Nat → Int32) {x j : Nat} (v : Int32) (h : j ≠ x) : upd f x v j = f j := if_neg h
theorem ek_o (f : Nat → Int32) (m : Nat) {j : Nat} (hj : j < 4 * (4 + m)) : kb (ek f (m + 1)).1 j = kb (ek f m).1 j := by
  unfold kb
  have : (ek f (m + 1)).1 (j / 4) = (ek f m).1 (j / 4) := by
    conv => lhs; unfold ek
    split
    · exact upd_ne _ _ (by omega)
    · exact upd_ne _ _ (by omega)
  rw [this]
def rtW (x : Int32) : Int32 := jshl x 8 ||| jushr x 24
theorem rtW_b (x : Int32) {k : Nat} (hk : k < 4) : b32 (rtW x) k = b32 x ((k + 1) % 4) := by
  unfold rtW
  rw [Int32.or_comm]
  match k, hk with
  | 0, _ => exact rot24_0 x
  | 1, _ => exact rot24_1 x
  | 2, _ => exact rot24_2 x
  | 3, _ => exact rot24_3 x
  | k + 4, h => exact absurd h (by omega)
theorem lcol_b (x : Int32) {k : Nat} (hk : k < 4) : b32 (lcol x x x x) k = sN (b32 x k) := by
  match k, hk with
  | 0, _ => exact lcol_0 x x x x
  | 1, _ => exact lcol_1 x x x x
  | 2, _ => exact lcol_2 x x x x
  | 3, _ => exact lcol_3 x x x x
  | k + 4, h => exact absurd h (by omega)
theorem ek_n (f : Nat → Int32) (m : Nat) {k : Nat} (hk : k < 4) : kb (ek f (m + 1)).1 (4 * (4 + m) + k) = kb (ek f m).1 (4 * (4 + m) - 16 + k) ^^^ (if (4 + m) % 4 = 0 then sN (kb (ek f m).1 (4 * (4 + m) - 4 + (k + 1) % 4)) ^^^ (if k = 0 then pw m else 0) else kb (ek f m).1 (4 * (4 + m) - 4 + k)) := by
  unfold kb
  rw [show (4 * (4 + m) + k) / 4 = 4 + m by omega, show (4 * (4 + m) + k) % 4 = k by omega, show (4 * (4 + m) - 16 + k) / 4 = 4 + m - 4 by omega, show (4 * (4 + m) - 16 + k) % 4 = k by omega, show (4 * (4 + m) - 4 + k) / 4 = 4 + m - 1 by omega, show (4 * (4 + m) - 4 + k) % 4 = k by omega, show (4 * (4 + m) - 4 + (k + 1) % 4) / 4 = 4 + m - 1 by omega, show (4 * (4 + m) - 4 + (k + 1) % 4) % 4 = (k + 1) % 4 by omega]
  conv => lhs; unfold ek
  by_cases h : (4 + m) % 4 = 0
  · rw [if_pos h, if_pos h]
    show b32 (upd _ (4 + m) ((ek f m).1 (4 + m - 4) ^^^ (lcol (rtW ((ek f m).1 (4 + m - 1))) (rtW ((ek f m).1 (4 + m - 1))) (rtW ((ek f m).1 (4 + m - 1))) (rtW ((ek f m).1 (4 + m - 1))) ^^^ jshl (ek f m).2 24)) (4 + m)) k = _
    rw [upd_at, b32_xor, b32_xor, lcol_b _ hk, rtW_b _ hk, ek_p, b32_p24 (pw_lt m) hk]
  · rw [if_neg h, if_neg h]
    show b32 (upd _ (4 + m) ((ek f m).1 (4 + m - 4) ^^^ (ek f m).1 (4 + m - 1)) (4 + m)) k = _
    rw [upd_at, b32_xor]
theorem twk_b (t : Int32) {k : Nat} (hk : k < 4) : jshr t (nI (24 - 8 * k)) &&& 255 = nI (b32 t k) := by
  rw [and255]
  congr 1
  apply Nat.eq_of_testBit_eq
  intro i
  rw [b32_bit, show (256 : Nat) = 2 ^ 8 from rfl, Nat.testBit_mod_two_pow, BitVec.testBit_toNat]
  by_cases hi : i < 8
  · have := b_sshr (24 - 8 * k) (by omega) t (i := i) (by omega)
    unfold bt at this
    rw [this, if_pos (by omega), decide_eq_true hi, show 24 - 8 * k + i = 8 * (3 - k) + i by omega]
    rfl
  · rw [decide_eq_false hi, Bool.false_and, Bool.false_and]
