/-! ===== the reference: its object, its rows of bytes ===== -/
def mo (A : Nat → Nat) (th su sz bl ci ma pa en wr : Int32) : List Value := [.int th, .int su, .ref (A 0), .int sz, .ref (A 1), .int bl, .ref (A 2), .ref (A 3), .ref (A 4), .ref (A 5), .int ci, .ref (A 6), .ref (A 7), .ref (A 8), .ref (A 9), .ref (A 10), .ref (A 11), .ref (A 12), .ref (A 13), .ref (A 14), .int ma, .ref (A 15), .ref (A 16), .ref (A 17), .ref (A 18), .ref (A 19), .ref (A 20), .ref (A 21), .ref (A 22), .ref (A 23), .ref (A 24), .ref (A 25), .ref (A 26), .ref (A 27), .ref (A 28), .ref (A 29), .int pa, .int en, .int wr, .ref (A 30), .ref (A 31), .ref (A 32)]
theorem x_mer {G : xG} {Y : xD} {k n pc : Nat} {lv : List (Nat × Value)} {st : List Value} {ws : va_W} {os oc os' : xO} (N : xN ws.length (keys os)) (is : List Nat) (hm : xmk (keys os) is oc) (ho : xmer os is oc = os') (kk : X G Y k n pc lv st (ovl ws os')) : X G Y k n pc lv st (ovl (ovl ws os) oc) := by
  rw [ovl_mer N.1 hm, ho]
  exact kk
/-- a row of numbers as ints -/
abbrev iF (f : Nat → Nat) : Nat → Int32 := fun j => nI (f j)
def updN (f : Nat → Nat) (x v : Nat) : Nat → Nat := fun j => if j = x then v else f j
theorem upd_iF (f : Nat → Nat) (x v : Nat) : upd (iF f) x (nI v) = iF (updN f x v) := by
  funext j
  show (if j = x then nI v else nI (f j)) = nI (if j = x then v else f j)
  split <;> rfl
theorem updN_s (f : Nat → Nat) (x v : Nat) : updN f x v x = v := if_pos rfl
theorem updN_n (f : Nat → Nat) {x j : Nat} (v : Nat) (h : j ≠ x) : updN f x v j = f j := if_neg h
/-- from p on i numbers g -/
def filN (f : Nat → Nat) (p i : Nat) (g : Nat → Nat) : Nat → Nat := fun j => if p ≤ j ∧ j < p + i then g (j - p) else f j
theorem filN_0 (f : Nat → Nat) (p : Nat) (g : Nat → Nat) : filN f p 0 g = f := by
  funext j
  unfold filN
  rw [if_neg (by omega)]
theorem filN_s (f : Nat → Nat) (p i : Nat) (g : Nat → Nat) : updN (filN f p i g) (p + i) (g i) = filN f p (i + 1) g := by
  funext j
  unfold updN filN
  by_cases h : j = p + i
  · subst h
    rw [if_pos rfl, if_pos (by omega), Nat.add_sub_cancel_left]
  · rw [if_neg h]
    by_cases h2 : p ≤ j ∧ j < p + i
    · rw [if_pos h2, if_pos (by omega)]
    · rw [if_neg h2, if_neg (by omega)]
theorem filN_i {f : Nat → Nat} {p i : Nat} {g : Nat → Nat} {j : Nat} (h : j < i) : filN f p i g (p + j) = g j := by
  unfold filN
  rw [if_pos (by omega), Nat.add_sub_cancel_left]
theorem filN_o {f : Nat → Nat} {p i : Nat} {g : Nat → Nat} {j : Nat} (h : j < p ∨ p + i ≤ j) : filN f p i g j = f j := by
  unfold filN
  rw [if_neg (by omega)]
theorem filN_z {f : Nat → Nat} {i : Nat} {g : Nat → Nat} {j : Nat} (h : j < i) : filN f 0 i g j = g j := by
  have := filN_i (f := f) (p := 0) (i := i) (g := g) h
  rw [Nat.zero_add] at this
  exact this
theorem filN_s0 (f : Nat → Nat) (i : Nat) (g : Nat → Nat) : updN (filN f 0 i g) i (g i) = filN f 0 (i + 1) g := by
  have := filN_s f 0 i g
  rw [Nat.zero_add] at this
  exact this
theorem nx_or (a b : Nat) : nI a ||| nI b = nI (a ||| b) := by
  apply Int32.toBitVec_inj.mp
  rw [Int32.toBitVec_or]
  show BitVec.ofNat 32 a ||| BitVec.ofNat 32 b = BitVec.ofNat 32 (a ||| b)
  apply BitVec.eq_of_toNat_eq
  rw [BitVec.toNat_or, BitVec.toNat_ofNat, BitVec.toNat_ofNat, BitVec.toNat_ofNat, ← Nat.or_mod_two_pow]
theorem jshl_nI (a : Nat) {k : Nat} (hk : k < 32) : jshl (nI a) (nI k) = nI (a * 2 ^ k) := by
  apply b_ext
  intro i hi
  rw [b_shl k hk _ hi]
  unfold bt
  show (decide (k ≤ i) && (BitVec.ofNat 32 a).getLsbD (i - k)) = (BitVec.ofNat 32 (a * 2 ^ k)).getLsbD i
  rw [BitVec.getLsbD_ofNat, BitVec.getLsbD_ofNat, Nat.testBit_mul_two_pow, decide_eq_true hi, decide_eq_true (show i - k < 32 by omega), Bool.true_and, Bool.true_and]
theorem jshr_nI {a : Nat} (ha : a < 2 ^ 31) {k : Nat} (hk : k < 32) : jshr (nI a) (nI k) = nI (a / 2 ^ k) := by
  apply b_ext
  intro i hi
  rw [b_sshr k hk _ hi]
  unfold bt
  show (if k + i < 32 then (BitVec.ofNat 32 a).getLsbD (k + i) else (BitVec.ofNat 32 a).getLsbD 31) = (BitVec.ofNat 32 (a / 2 ^ k)).getLsbD i
  rw [BitVec.getLsbD_ofNat, BitVec.getLsbD_ofNat, BitVec.getLsbD_ofNat, Nat.testBit_div_two_pow, decide_eq_true hi, Bool.true_and, show (a.testBit 31) = false from Nat.testBit_lt_two_pow ha, Bool.and_false]
  by_cases h : k + i < 32
  · rw [if_pos h, decide_eq_true h, Bool.true_and, Nat.add_comm k i]
  · rw [if_neg h]
    exact (Nat.testBit_lt_two_pow (Nat.lt_of_lt_of_le ha (Nat.pow_le_pow_right (by decide) (by omega)))).symm
theorem le_pred {m : Nat} {x : Int32} (hm : m < 2 ^ 31) (h : nI m ≤ x) : nI m - 1 < x := by
  rw [Int32.le_iff_toInt_le, nI_toInt hm] at h
  rw [Int32.lt_iff_toInt_lt]
  cases m with
  | zero =>
    rw [show (nI 0 - 1 : Int32) = -1 by decide, show (-1 : Int32).toInt = -1 by decide]
    omega
  | succ m =>
    rw [nI_pred, nI_toInt (by omega)]
    omega
/-! bytes of labels -/
theorem lby_bit (v : Int64) (k i : Nat) : (lby v k).testBit i = (decide (i < 8) && v.toBitVec.getLsbD (8 * k + i)) := by
  unfold lby
  rw [show (256 : Nat) = 2 ^ 8 from rfl, Nat.testBit_mod_two_pow, Nat.testBit_div_two_pow, BitVec.testBit_toNat, Nat.add_comm i (8 * k)]
theorem lby_xor (a b : Int64) (k : Nat) : lby (a ^^^ b) k = lby a k ^^^ lby b k := by
  apply Nat.eq_of_testBit_eq
  intro i
  rw [Nat.testBit_xor, lby_bit, lby_bit, lby_bit, Int64.toBitVec_xor, BitVec.getLsbD_xor]
  cases decide (i < 8) <;> simp
theorem byW_xor (h l h2 l2 : Int64) (i : Nat) : byW (h ^^^ h2) (l ^^^ l2) i = byW h l i ^^^ byW h2 l2 i := by
  unfold byW
  split <;> exact lby_xor _ _ _
theorem xor_byte {a b : Nat} (ha : a < 256) (hb : b < 256) : a ^^^ b < 256 := Nat.xor_lt_two_pow (n := 8) ha hb
theorem or_byte {a b : Nat} (ha : a < 256) (hb : b < 256) : a ||| b < 256 := Nat.or_lt_two_pow (n := 8) ha hb
