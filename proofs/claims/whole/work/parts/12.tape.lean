/-- a row of bytes as Java has them, of numbers below 256 -/
def bF (t : Nat → Nat) : Nat → Int32 := fun j => sb_b (t j)
theorem bF_and {t : Nat → Nat} {j : Nat} (h : t j < 256) : bF t j &&& 255 = nI (t j) := (sb_byte _ h).1
/-- k bytes from p on, the highest first -/
def w8 (t : Nat → Nat) (p : Nat) : Nat → Int64
  | 0 => 0
  | k + 1 => jlshl (w8 t p k) 8 ||| (nI (t (p + k))).toInt64
/-- the byte at 8 k of a number -/
def lby (v : Int64) (k : Nat) : Nat := v.toBitVec.toNat / 2 ^ (8 * k) % 256
/-- the tape with i of n bytes of v behind s -/
def tapp (t : Nat → Nat) (s : Nat) (v : Int64) (n i : Nat) : Nat → Nat := fun j => if s ≤ j ∧ j < s + i then lby v (n - 1 - (j - s)) else t j
theorem lby_lt (v : Int64) (k : Nat) : lby v k < 256 := Nat.mod_lt _ (by decide)
theorem i8_of (x y : Int32) (h : x.toBitVec.toNat % 256 = y.toBitVec.toNat % 256) : x.toInt8.toInt32 = y.toInt8.toInt32 := by
  have e : x.toInt8 = y.toInt8 := by
    apply Int8.toBitVec_inj.mp
    rw [Int32.toBitVec_toInt8, Int32.toBitVec_toInt8]
    apply BitVec.eq_of_toNat_eq
    rw [BitVec.signExtend_eq_setWidth_of_le _ (by decide), BitVec.signExtend_eq_setWidth_of_le _ (by decide), BitVec.toNat_setWidth, BitVec.toNat_setWidth]
    exact h
  rw [e]
set_option maxHeartbeats 4000000 in
set_option maxRecDepth 100000 in
theorem c_X6_useUp (Y : xD) (w : va_W) (a0 : Nat) (a1 : Nat) (n : Nat) (q0 : Nat) (e0 : w[q0]? = some (a0, cO 6 [.ref a1, .int (nI n)])) (N : xN w.length [q0])  : Cf Y mX6_useUp 0 [.ref a0] w (some (.int (nI n))) [(q0, (a0, cO 6 [.ref a1, .int 0]))] := by
  refine Ct.intro (T := tX6_useUp) (by decide) oX6_useUp (Nat.le_of_ble_eq_true rfl) (fun G C B => ?_)
  refine x_lay [(q0, (a0, cO 6 [.ref a1, .int (nI n)]))] (lay_cons e0 lay_nil) ?_
  refine x_run C 0 1 (pc' := 1) (lv' := [(0, .ref a0)]) (st' := [.ref a0]) rfl ?_
  refine x_get C 1 rfl fX6_15 N 0 rfl (v := .int (nI n)) rfl ?_
  refine x_run C 2 3 (pc' := 7) (lv' := [(1, .int (nI n)), (0, .ref a0)]) (st' := [.int 0, .ref a0]) rfl ?_
  refine x_put C 5 rfl pX6_15 N 0 rfl rfl rfl (Nat.le_of_ble_eq_true rfl) (os' := [(q0, (a0, cO 6 [.ref a1, .int 0]))]) rfl ?_
  refine x_run C 6 1 (pc' := 11) (lv' := [(1, .int (nI n)), (0, .ref a0)]) (st' := [.int (nI n)]) rfl ?_
  exact x_iret C B rfl 7 rfl (Nat.zero_le _) (Nat.zero_le _) ⟨by first | rfl | (simp only [nlit, nI_add, pk_mul]; done), by first | rfl | (simp only [nlit, nI_add, pk_mul]; done)⟩
set_option maxHeartbeats 4000000 in
set_option maxRecDepth 100000 in
theorem c_X6_byteAt (Y : xD) (w : va_W) (a0 : Nat) (a1 : Nat) (n : Nat) (t : Nat → Nat) (i : Nat) (q0 q1 : Nat) (e0 : w[q0]? = some (a0, cO 6 [.ref a1, .int (nI n)])) (e1 : w[q1]? = some (a1, cB Y 4000 (bF t))) (N : xN w.length [q0, q1]) (hi : i < 4000) (ht : ∀ j, t j < 256) : Cf Y mX6_byteAt 0 [.ref a0, .int (nI i)] w (some (.int (nI (t i)))) [(q0, (a0, cO 6 [.ref a1, .int (nI n)])), (q1, (a1, cB Y 4000 (bF t)))] := by
  refine Ct.intro (T := tX6_byteAt) (by decide) oX6_byteAt (Nat.le_of_ble_eq_true rfl) (fun G C B => ?_)
  refine x_lay [(q0, (a0, cO 6 [.ref a1, .int (nI n)])), (q1, (a1, cB Y 4000 (bF t)))] (lay_cons e0 (lay_cons e1 lay_nil)) ?_
  refine x_run C 0 1 (pc' := 1) (lv' := [(0, .ref a0), (1, .int (nI i))]) (st' := [.int (nI i)]) rfl ?_
  refine x_if_lt C 1 rfl (tgt := 11) rfl (fun hc1 => absurd hc1 (nI_pos (by omega))) (fun hc1 => ?_)
  refine x_run C 2 2 (pc' := 8) (lv' := [(0, .ref a0), (1, .int (nI i))]) (st' := [.int 4000, .int (nI i)]) rfl ?_
  refine x_st (st' := [.int (nI 4000), .int (nI i)]) (by simp only [nlit, nI_add, pk_mul]) ?_
  refine x_icmpN_lt C 4 (by omega) (by omega) rfl (tgt := 15) rfl (fun hc2 => ?_) (fun hc2 => ?_)
  · refine x_run C 7 1 (pc' := 16) (lv' := [(0, .ref a0), (1, .int (nI i))]) (st' := [.ref a0]) rfl ?_
    refine x_get C 8 rfl fX6_9 N 0 rfl (v := .ref a1) rfl ?_
    refine x_run C 9 1 (pc' := 20) (lv' := [(0, .ref a0), (1, .int (nI i))]) (st' := [.int (nI i), .ref a1]) rfl ?_
    refine x_baldN C 10 rfl N 1 rfl (by omega) (by omega) ?_
    refine x_run C 11 2 (pc' := 25) (lv' := [(0, .ref a0), (1, .int (nI i))]) (st' := [.int (((bF t) i) &&& 255)]) rfl ?_
    exact x_iret C B rfl 13 rfl (Nat.zero_le _) (Nat.zero_le _) ⟨by rw [bF_and (ht i)], rfl⟩
  · exact absurd hc2 (by omega)
set_option maxHeartbeats 4000000 in
set_option maxRecDepth 100000 in
theorem c_X6_eightBytes (Y : xD) (w : va_W) (a0 : Nat) (a1 : Nat) (n : Nat) (t : Nat → Nat) (p : Nat) (q0 q1 : Nat) (e0 : w[q0]? = some (a0, cO 6 [.ref a1, .int (nI n)])) (e1 : w[q1]? = some (a1, cB Y 4000 (bF t))) (N : xN w.length [q0, q1]) (hp : p + 8 ≤ 4000) (ht : ∀ j, t j < 256) : Cf Y mX6_eightBytes 1 [.ref a0, .int (nI p)] w (some (.long (w8 t p 8))) [(q0, (a0, cO 6 [.ref a1, .int (nI n)])), (q1, (a1, cB Y 4000 (bF t)))] := by
  refine Ct.intro (T := tX6_eightBytes) (by decide) oX6_eightBytes (Nat.le_of_ble_eq_true rfl) (fun G C B => ?_)
  refine x_lay [(q0, (a0, cO 6 [.ref a1, .int (nI n)])), (q1, (a1, cB Y 4000 (bF t)))] (lay_cons e0 (lay_cons e1 lay_nil)) ?_
  refine x_run C 0 4 (pc' := 5) (lv' := [(4, .int 0), (2, .long 0), (0, .ref a0), (1, .int (nI p))]) (st' := []) rfl ?_
  have L5 : ∀ k : Nat, 0 ≤ k → k ≤ 8 → X G Y 0 0 5 [(0, .ref a0), (1, .int (nI p)), (2, .long (w8 t p k)), (4, .int (nI k))] [] (ovl w [(q0, (a0, cO 6 [.ref a1, .int (nI n)])), (q1, (a1, cB Y 4000 (bF t)))]) := by
    intro k lo5 hi5
    revert lo5
    refine x_up (fun k => 0 ≤ k → X G Y 0 0 5 [(0, .ref a0), (1, .int (nI p)), (2, .long (w8 t p k)), (4, .int (nI k))] [] (ovl w [(q0, (a0, cO 6 [.ref a1, .int (nI n)])), (q1, (a1, cB Y 4000 (bF t)))])) 8 ?_ ?_ k hi5
    · intro lo5
      refine x_run C 4 2 (pc' := 9) (lv' := [(0, .ref a0), (1, .int (nI p)), (2, .long (w8 t p 8)), (4, .int (nI 8))]) (st' := [.int 8, .int (nI 8)]) rfl ?_
      refine x_st (st' := [.int (nI 8), .int (nI 8)]) (by simp only [nlit, nI_add, pk_mul]) ?_
      refine x_icmpN_ge C 6 (by omega) (by omega) rfl (tgt := 33) rfl (fun hc1 => ?_) (fun hc1 => ?_)
      · refine x_run C 20 1 (pc' := 34) (lv' := [(0, .ref a0), (1, .int (nI p)), (2, .long (w8 t p 8)), (4, .int (nI 8))]) (st' := [.long (w8 t p 8)]) rfl ?_
        exact x_lret C B rfl 21 rfl (Nat.zero_le _) (Nat.zero_le _) ⟨by first | contradiction | rfl | (simp only [nlit]; done) | (simp only [nlit]; rfl) | (simp only [nlit]; simp only [nlit, nI_add, pk_mul]; done) | (simp only [nlit, nI_add, pk_mul]; done) | contradiction | (simp only [nlit, nI_add, pk_mul]; rfl), by first | contradiction | rfl | (simp only [nlit]; done) | (simp only [nlit]; rfl) | (simp only [nlit]; simp only [nlit, nI_add, pk_mul]; done) | (simp only [nlit, nI_add, pk_mul]; done) | contradiction | (simp only [nlit, nI_add, pk_mul]; rfl)⟩
      · exact absurd hc1 (by omega)
    · intro k hi5 ih5 lo5
      refine x_run C 4 2 (pc' := 9) (lv' := [(0, .ref a0), (1, .int (nI p)), (2, .long (w8 t p k)), (4, .int (nI k))]) (st' := [.int 8, .int (nI k)]) rfl ?_
      refine x_st (st' := [.int (nI 8), .int (nI k)]) (by simp only [nlit, nI_add, pk_mul]) ?_
      refine x_icmpN_ge C 6 (by omega) (by omega) rfl (tgt := 33) rfl (fun hc2 => ?_) (fun hc2 => ?_)
      · exact absurd hc2 (by omega)
      · refine x_run C 7 7 (pc' := 21) (lv' := [(0, .ref a0), (1, .int (nI p)), (2, .long (w8 t p k)), (4, .int (nI k))]) (st' := [.int ((nI p) + (nI k)), .ref a0, .long (jlshl (w8 t p k) 8)]) rfl ?_
        refine x_st (st' := [.int (nI (p + k)), .ref a0, .long (jlshl (w8 t p k) 8)]) (by simp only [nlit, nI_add, pk_mul]) ?_
        refine x_cv C 14 (As := [.int (nI (p + k))]) (rest := [.long (jlshl (w8 t p k) 8)]) rfl vX6_19 N 0 rfl rfl (c_X6_byteAt Y _ a0 a1 n t (p + k) q0 q1 (ovl_at 0 N rfl) (ovl_at 1 N rfl) (N.ov [0, 1] (by decide) rfl) (by first | assumption | omega) (by first | assumption | omega)) rfl rfl (Nat.le_of_ble_eq_true rfl) ⟨Nat.le_of_ble_eq_true rfl, Nat.le_of_ble_eq_true rfl⟩ ⟨Nat.zero_le _, Nat.zero_le _⟩ [0, 1] ⟨rfl, rfl, trivial⟩ (os' := [(q0, (a0, cO 6 [.ref a1, .int (nI n)])), (q1, (a1, cB Y 4000 (bF t)))]) rfl (st' := [.int (nI (t (p + k))), .long (jlshl (w8 t p k) 8)]) rfl ?_
        refine x_run C 15 5 (pc' := 5) (lv' := [(4, .int ((nI k) + 1)), (2, .long ((jlshl (w8 t p k) 8) ||| ((nI (t (p + k))).toInt64))), (0, .ref a0), (1, .int (nI p))]) (st' := []) rfl ?_
        refine x_sub (lv' := [(0, .ref a0), (1, .int (nI p)), (2, .long ((jlshl (w8 t p k) 8) ||| ((nI (t (p + k))).toInt64))), (4, .int ((nI k) + 1))]) [2, 3, 1, 0] rfl ?_
        refine x_loc (lv' := [(0, .ref a0), (1, .int (nI p)), (2, .long (w8 t p (k + 1))), (4, .int (nI (k + 1)))]) (by first | rfl | simp only [w8, nlit, nI_add, pk_mul]) ?_
        exact ih5 (by omega)
  refine x_sub (lv' := [(0, .ref a0), (1, .int (nI p)), (2, .long 0), (4, .int 0)]) [2, 3, 1, 0] rfl ?_
  refine x_loc (lv' := [(0, .ref a0), (1, .int (nI p)), (2, .long (w8 t p 0)), (4, .int (nI 0))]) (by first | rfl | simp only [w8, nlit, nI_add, pk_mul]) ?_
  exact L5 0 (Nat.le_refl _) (by omega)
theorem tapp0 (t : Nat → Nat) (s : Nat) (v : Int64) (n : Nat) : tapp t s v n 0 = t := by
  funext j
  unfold tapp
  rw [if_neg (by omega)]
theorem toNat_i32 (v : Int64) : v.toInt32.toBitVec.toNat = v.toBitVec.toNat % 2 ^ 32 := by
  rw [Int64.toBitVec_toInt32, BitVec.signExtend_eq_setWidth_of_le _ (by decide), BitVec.toNat_setWidth]
theorem jlushr_toNat (v : Int64) {k : Nat} (hk : k < 64) : (jlushr v (nI k)).toBitVec.toNat = v.toBitVec.toNat / 2 ^ k := uN_sk v hk
theorem tapp_s {t : Nat → Nat} {s : Nat} {v : Int64} {n i : Nat} (hi : i < n) (hn : n ≤ 8) : upd (bF (tapp t s v n i)) (s + i) (vp_nar .byte ((jlushr v (8 * nI (n - i - 1))).toInt32.toInt8.toInt32)) = bF (tapp t s v n (i + 1)) := by
  funext j
  unfold upd bF tapp
  by_cases h : j = s + i
  · subst h
    rw [if_pos rfl, if_pos (by omega), pk_vb]
    refine i8_of _ _ ?_
    rw [show (8 : Int32) * nI (n - i - 1) = nI (8 * (n - i - 1)) from by simp only [nlit, pk_mul], toNat_i32, jlushr_toNat v (by omega), pk_tn (by have := lby_lt v (n - 1 - (s + i - s)); omega), show n - 1 - (s + i - s) = n - i - 1 by omega]
    unfold lby
    rw [Nat.mod_mod, Nat.mod_mod_of_dvd _ (by decide)]
  · rw [if_neg h]
    by_cases h2 : s ≤ j ∧ j < s + i
    · rw [if_pos h2, if_pos (by omega)]
    · rw [if_neg h2, if_neg (by omega)]
theorem dn_eq {m : Nat} (h : 0 < m) : nI m - 1 = nI (m - 1) := by
  obtain ⟨k, rfl⟩ : ∃ k, m = k + 1 := ⟨m - 1, by omega⟩
  rw [nI_pred, Nat.add_sub_cancel]
theorem dn_m1 (x : Int32) : x + (-1) = x - 1 := by rw [Int32.sub_eq_add_neg]
set_option maxHeartbeats 4000000 in
set_option maxRecDepth 100000 in
theorem c_X6_appendF (Y : xD) (w : va_W) (a0 : Nat) (a1 : Nat) (s : Nat) (t : Nat → Nat) (v : Int64) (n : Nat) (q0 q1 : Nat) (e0 : w[q0]? = some (a0, cO 6 [.ref a1, .int (nI s)])) (e1 : w[q1]? = some (a1, cB Y 4000 (bF t))) (N : xN w.length [q0, q1]) (hs : s ≤ 4000) (h1 : 1 ≤ n) (h8 : n ≤ 8) (hf : 4000 < s + n) : Cf Y mX6_append 0 [.ref a0, .long v, .int (nI n)] w (some (.int 0)) [(q0, (a0, cO 6 [.ref a1, .int (nI s)])), (q1, (a1, cB Y 4000 (bF t)))] := by
  refine Ct.intro (T := tX6_append) (by decide) oX6_append (Nat.le_of_ble_eq_true rfl) (fun G C B => ?_)
  refine x_lay [(q0, (a0, cO 6 [.ref a1, .int (nI s)])), (q1, (a1, cB Y 4000 (bF t)))] (lay_cons e0 (lay_cons e1 lay_nil)) ?_
  refine x_run C 0 3 (pc' := 5) (lv' := [(0, .ref a0), (1, .long v), (3, .int (nI n))]) (st' := [.ref a0, .int 4000, .int (nI n)]) rfl ?_
  refine x_get C 3 rfl fX6_15 N 0 rfl (v := .int (nI s)) rfl ?_
  refine x_run C 4 1 (pc' := 9) (lv' := [(0, .ref a0), (1, .long v), (3, .int (nI n))]) (st' := [.int (4000 - (nI s)), .int (nI n)]) rfl ?_
  refine x_st (st' := [.int (nI (4000 - s)), .int (nI n)]) (by simp only [nlit, nI_add, pk_mul, pk_sub (show s ≤ 4000 by omega)]) ?_
  refine x_icmpN_le C 5 (by omega) (by omega) rfl (tgt := 14) rfl (fun hc1 => ?_) (fun hc1 => ?_)
  · exact absurd hc1 (by omega)
  · refine x_run C 6 1 (pc' := 13) (lv' := [(0, .ref a0), (1, .long v), (3, .int (nI n))]) (st' := [.int 0]) rfl ?_
    exact x_zret C B rfl 7 rfl (by first | exact Or.inl rfl | exact Or.inr rfl | decide) (Nat.zero_le _) (Nat.zero_le _) ⟨by first | contradiction | rfl | (simp only [nlit]; done) | (simp only [nlit]; rfl) | (simp only [nlit]; simp only [nlit, nI_add, pk_mul]; done) | (simp only [nlit, nI_add, pk_mul]; done) | contradiction | (simp only [nlit, nI_add, pk_mul]; rfl), by first | contradiction | rfl | (simp only [nlit]; done) | (simp only [nlit]; rfl) | (simp only [nlit]; simp only [nlit, nI_add, pk_mul]; done) | (simp only [nlit, nI_add, pk_mul]; done) | contradiction | (simp only [nlit, nI_add, pk_mul]; rfl)⟩
set_option maxHeartbeats 4000000 in
set_option maxRecDepth 100000 in
theorem c_X6_append (Y : xD) (w : va_W) (a0 : Nat) (a1 : Nat) (s : Nat) (t : Nat → Nat) (v : Int64) (n : Nat) (q0 q1 : Nat) (e0 : w[q0]? = some (a0, cO 6 [.ref a1, .int (nI s)])) (e1 : w[q1]? = some (a1, cB Y 4000 (bF t))) (N : xN w.length [q0, q1]) (hs : s ≤ 4000) (h1 : 1 ≤ n) (h8 : n ≤ 8) (hf : s + n ≤ 4000) : Cf Y mX6_append 0 [.ref a0, .long v, .int (nI n)] w (some (.int 1)) [(q0, (a0, cO 6 [.ref a1, .int (nI (s + n))])), (q1, (a1, cB Y 4000 (bF (tapp t s v n n))))] := by
  refine Ct.intro (T := tX6_append) (by decide) oX6_append (Nat.le_of_ble_eq_true rfl) (fun G C B => ?_)
  refine x_lay [(q0, (a0, cO 6 [.ref a1, .int (nI s)])), (q1, (a1, cB Y 4000 (bF t)))] (lay_cons e0 (lay_cons e1 lay_nil)) ?_
  refine x_run C 0 3 (pc' := 5) (lv' := [(0, .ref a0), (1, .long v), (3, .int (nI n))]) (st' := [.ref a0, .int 4000, .int (nI n)]) rfl ?_
  refine x_get C 3 rfl fX6_15 N 0 rfl (v := .int (nI s)) rfl ?_
  refine x_run C 4 1 (pc' := 9) (lv' := [(0, .ref a0), (1, .long v), (3, .int (nI n))]) (st' := [.int (4000 - (nI s)), .int (nI n)]) rfl ?_
  refine x_st (st' := [.int (nI (4000 - s)), .int (nI n)]) (by simp only [nlit, nI_add, pk_mul, pk_sub (show s ≤ 4000 by omega)]) ?_
  refine x_icmpN_le C 5 (by omega) (by omega) rfl (tgt := 14) rfl (fun hc1 => ?_) (fun hc1 => ?_)
  · refine x_run C 8 4 (pc' := 19) (lv' := [(4, .int ((nI n) - 1)), (0, .ref a0), (1, .long v), (3, .int (nI n))]) (st' := []) rfl ?_
    have L19 : ∀ k : Nat, 0 ≤ k → k ≤ n → X G Y 0 0 19 [(0, .ref a0), (1, .long v), (3, .int (nI n)), (4, .int (nI (n - k) - 1))] [] (ovl w [(q0, (a0, cO 6 [.ref a1, .int (nI (s + k))])), (q1, (a1, cB Y 4000 (bF (tapp t s v n k))))]) := by
      intro k lo19 hi19
      revert lo19
      refine x_up (fun k => 0 ≤ k → X G Y 0 0 19 [(0, .ref a0), (1, .long v), (3, .int (nI n)), (4, .int (nI (n - k) - 1))] [] (ovl w [(q0, (a0, cO 6 [.ref a1, .int (nI (s + k))])), (q1, (a1, cB Y 4000 (bF (tapp t s v n k))))])) n ?_ ?_ k hi19
      · intro lo19
        refine x_run C 12 1 (pc' := 21) (lv' := [(0, .ref a0), (1, .long v), (3, .int (nI n)), (4, .int (nI (n - n) - 1))]) (st' := [.int (nI (n - n) - 1)]) rfl ?_
        refine x_if_lt C 13 rfl (tgt := 58) rfl (fun hc2 => ?_) (fun hc2 => ?_)
        · refine x_run C 34 1 (pc' := 59) (lv' := [(0, .ref a0), (1, .long v), (3, .int (nI n)), (4, .int (nI (n - n) - 1))]) (st' := [.int 1]) rfl ?_
          exact x_zret C B rfl 35 rfl (by first | exact Or.inl rfl | exact Or.inr rfl | decide) (Nat.zero_le _) (Nat.zero_le _) ⟨by first | contradiction | rfl | (simp only [if_pos hc2]; done) | (simp only [if_pos hc2]; rfl) | (simp only [if_pos hc2]; simp only [nlit, nI_add, pk_mul]; done) | (simp only [if_pos hc2, nlit, nI_add, pk_mul]; done) | contradiction | (simp only [if_pos hc2, nlit, nI_add, pk_mul]; rfl), by first | contradiction | rfl | (simp only [if_pos hc2]; done) | (simp only [if_pos hc2]; rfl) | (simp only [if_pos hc2]; simp only [nlit, nI_add, pk_mul]; done) | (simp only [if_pos hc2, nlit, nI_add, pk_mul]; done) | contradiction | (simp only [if_pos hc2, nlit, nI_add, pk_mul]; rfl)⟩
        · exact absurd hc2 (fun z => z (by rw [Nat.sub_self]; decide))
      · intro k hi19 ih19 lo19
        refine x_loc (lv' := [(0, .ref a0), (1, .long v), (3, .int (nI n)), (4, .int (nI (n - k - 1)))]) (by rw [dn_eq (by omega)]) ?_
        refine x_run C 12 1 (pc' := 21) (lv' := [(0, .ref a0), (1, .long v), (3, .int (nI n)), (4, .int (nI (n - k - 1)))]) (st' := [.int (nI (n - k - 1))]) rfl ?_
        refine x_if_lt C 13 rfl (tgt := 58) rfl (fun hc3 => absurd hc3 (nI_pos (by omega))) (fun hc3 => ?_)
        refine x_run C 14 1 (pc' := 25) (lv' := [(0, .ref a0), (1, .long v), (3, .int (nI n)), (4, .int (nI (n - k - 1)))]) (st' := [.ref a0]) rfl ?_
        refine x_get C 15 rfl fX6_9 N 0 rfl (v := .ref a1) rfl ?_
        refine x_run C 16 1 (pc' := 29) (lv' := [(0, .ref a0), (1, .long v), (3, .int (nI n)), (4, .int (nI (n - k - 1)))]) (st' := [.ref a0, .ref a1]) rfl ?_
        refine x_get C 17 rfl fX6_15 N 0 rfl (v := .int (nI (s + k))) rfl ?_
        refine x_run C 18 7 (pc' := 41) (lv' := [(0, .ref a0), (1, .long v), (3, .int (nI n)), (4, .int (nI (n - k - 1)))]) (st' := [.int (((jlushr v (8 * (nI (n - k - 1)))).toInt32).toInt8.toInt32), .int (nI (s + k)), .ref a1]) rfl ?_
        refine x_bastN C 25 rfl N 1 rfl (by omega) (by omega) (os' := [(q0, (a0, cO 6 [.ref a1, .int (nI (s + k))])), (q1, (a1, cB Y 4000 (upd (bF (tapp t s v n k)) (s + k) (vp_nar .byte (((jlushr v (8 * (nI (n - k - 1)))).toInt32).toInt8.toInt32)))))]) rfl ?_
        refine x_run C 26 2 (pc' := 44) (lv' := [(0, .ref a0), (1, .long v), (3, .int (nI n)), (4, .int (nI (n - k - 1)))]) (st' := [.ref a0, .ref a0]) rfl ?_
        refine x_get C 28 rfl fX6_15 N 0 rfl (v := .int (nI (s + k))) rfl ?_
        refine x_run C 29 2 (pc' := 49) (lv' := [(0, .ref a0), (1, .long v), (3, .int (nI n)), (4, .int (nI (n - k - 1)))]) (st' := [.int ((nI (s + k)) + 1), .ref a0]) rfl ?_
        refine x_put C 31 rfl pX6_15 N 0 rfl rfl rfl (Nat.le_of_ble_eq_true rfl) (os' := [(q0, (a0, cO 6 [.ref a1, .int ((nI (s + k)) + 1)])), (q1, (a1, cB Y 4000 (upd (bF (tapp t s v n k)) (s + k) (vp_nar .byte (((jlushr v (8 * (nI (n - k - 1)))).toInt32).toInt8.toInt32)))))]) rfl ?_
        refine x_run C 32 2 (pc' := 19) (lv' := [(4, .int ((nI (n - k - 1)) + (-1))), (0, .ref a0), (1, .long v), (3, .int (nI n))]) (st' := []) rfl ?_
        refine x_sub (lv' := [(0, .ref a0), (1, .long v), (3, .int (nI n)), (4, .int ((nI (n - k - 1)) + (-1)))]) [1, 2, 3, 0] rfl ?_
        refine x_loc (lv' := [(0, .ref a0), (1, .long v), (3, .int (nI n)), (4, .int (nI (n - (k + 1)) - 1))]) (by rw [show n - (k + 1) = n - k - 1 by omega, dn_m1]) ?_
        refine x_ov (os' := [(q0, (a0, cO 6 [.ref a1, .int (nI (s + (k + 1)))])), (q1, (a1, cB Y 4000 (bF (tapp t s v n (k + 1)))))]) (by rw [tapp_s (by omega) (by omega)]; simp only [nlit, nI_add, Nat.add_assoc]) ?_
        exact ih19 (by omega)
    refine x_sub (lv' := [(0, .ref a0), (1, .long v), (3, .int (nI n)), (4, .int ((nI n) - 1))]) [1, 2, 3, 0] rfl ?_
    refine x_loc (lv' := [(0, .ref a0), (1, .long v), (3, .int (nI n)), (4, .int (nI (n - 0) - 1))]) (by rw [Nat.sub_zero]) ?_
    refine x_ov (os' := [(q0, (a0, cO 6 [.ref a1, .int (nI (s + 0))])), (q1, (a1, cB Y 4000 (bF (tapp t s v n 0))))]) (by rw [tapp0]; rfl) ?_
    exact L19 0 (Nat.le_refl _) (by omega)
  · exact absurd hc1 (by omega)
