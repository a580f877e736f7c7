/-- byte b of a label -/
def byW (h l : Int64) (b : Nat) : Nat := if b < 8 then lby h (7 - b) else lby l (15 - b)
theorem and255 (x : Int32) : x &&& 255 = nI (x.toBitVec.toNat % 256) := pk_and x 8 (by decide)
theorem lby_of (v : Int64) {k : Nat} (hk : k < 8) : (jlushr v (nI (8 * k))).toInt32 &&& 255 = nI (lby v k) := by
  rw [and255, toNat_i32, jlushr_toNat v (by omega)]
  unfold lby
  rw [Nat.mod_mod_of_dvd _ (by decide)]
theorem byW_of (f : Nat → Int64) (i : Nat) {b : Nat} (hb : b < 16) : (jlushr (f (2 * i + 1 * b / 8)) (nI (64 - 8 * (1 + 1 * b % 8)))).toInt32 &&& 255 = nI (byW (f (2 * i)) (f (2 * i + 1)) b) := by
  unfold byW
  by_cases h : b < 8
  · rw [if_pos h, show 2 * i + 1 * b / 8 = 2 * i by omega, show 64 - 8 * (1 + 1 * b % 8) = 8 * (7 - b) by omega, lby_of _ (by omega)]
  · rw [if_neg h, show 2 * i + 1 * b / 8 = 2 * i + 1 by omega, show 64 - 8 * (1 + 1 * b % 8) = 8 * (15 - b) by omega, lby_of _ (by omega)]
theorem byW_lt (h l : Int64) (b : Nat) : byW h l b < 256 := by
  unfold byW
  split <;> exact lby_lt _ _
set_option maxHeartbeats 4000000 in
set_option maxRecDepth 100000 in
theorem c_X5_putFromTape (Y : xD) (w : va_W) (a0 : Nat) (a1 : Nat) (len : Nat) (f : Nat → Int64) (b0 : Nat) (b1 : Nat) (sz : Nat) (tp : Nat → Nat) (t : Nat) (p : Nat) (q0 q1 p0 p1 : Nat) (e0 : w[q0]? = some (a0, cO 5 [.ref a1])) (e1 : w[q1]? = some (a1, cJ Y len f)) (e2 : w[p0]? = some (b0, cO 6 [.ref b1, .int (nI sz)])) (e3 : w[p1]? = some (b1, cB Y 4000 (bF tp))) (N : xN w.length [q0, q1, p0, p1]) (ht : 2 * t + 1 < len) (hl : len < 2 ^ 31) (hp : p + 16 ≤ 4000) (hb : ∀ j, tp j < 256) : Cf Y mX5_putFromTape 2 [.ref a0, .int (nI t), .ref b0, .int (nI p)] w none [(q0, (a0, cO 5 [.ref a1])), (q1, (a1, cJ Y len (lbP f t (w8 tp p 8) (w8 tp (p + 8) 8)))), (p0, (b0, cO 6 [.ref b1, .int (nI sz)])), (p1, (b1, cB Y 4000 (bF tp)))] := by
  refine Ct.intro (T := tX5_putFromTape) (by decide) oX5_putFromTape (Nat.le_of_ble_eq_true rfl) (fun G C B => ?_)
  refine x_lay [(q0, (a0, cO 5 [.ref a1])), (q1, (a1, cJ Y len f)), (p0, (b0, cO 6 [.ref b1, .int (nI sz)])), (p1, (b1, cB Y 4000 (bF tp)))] (lay_cons e0 (lay_cons e1 (lay_cons e2 (lay_cons e3 lay_nil)))) ?_
  refine x_run C 0 4 (pc' := 4) (lv' := [(0, .ref a0), (1, .int (nI t)), (2, .ref b0), (3, .int (nI p))]) (st' := [.int (nI p), .ref b0, .int (nI t), .ref a0]) rfl ?_
  refine x_cv C 4 (As := [.int (nI p)]) (rest := [.int (nI t), .ref a0]) rfl vX5_13 N 2 rfl rfl (c_X6_eightBytes Y _ b0 b1 sz tp p p0 p1 (ovl_at 2 N rfl) (ovl_at 3 N rfl) (N.ov [2, 3] (by decide) rfl) (by first | assumption | omega) (by first | assumption | omega)) rfl rfl (Nat.le_of_ble_eq_true rfl) ⟨Nat.le_of_ble_eq_true rfl, Nat.le_of_ble_eq_true rfl⟩ ⟨Nat.zero_le _, Nat.zero_le _⟩ [2, 3] ⟨rfl, rfl, trivial⟩ (os' := [(q0, (a0, cO 5 [.ref a1])), (q1, (a1, cJ Y len f)), (p0, (b0, cO 6 [.ref b1, .int (nI sz)])), (p1, (b1, cB Y 4000 (bF tp)))]) rfl (st' := [.long (w8 tp p 8), .int (nI t), .ref a0]) rfl ?_
  refine x_run C 5 4 (pc' := 12) (lv' := [(0, .ref a0), (1, .int (nI t)), (2, .ref b0), (3, .int (nI p))]) (st' := [.int ((nI p) + 8), .ref b0, .long (w8 tp p 8), .int (nI t), .ref a0]) rfl ?_
  refine x_st (st' := [.int (nI (p + 8)), .ref b0, .long (w8 tp p 8), .int (nI t), .ref a0]) (by simp only [nlit, nI_add, pk_mul]) ?_
  refine x_cv C 9 (As := [.int (nI (p + 8))]) (rest := [.long (w8 tp p 8), .int (nI t), .ref a0]) rfl vX5_13 N 2 rfl rfl (c_X6_eightBytes Y _ b0 b1 sz tp (p + 8) p0 p1 (ovl_at 2 N rfl) (ovl_at 3 N rfl) (N.ov [2, 3] (by decide) rfl) (by first | assumption | omega) (by first | assumption | omega)) rfl rfl (Nat.le_of_ble_eq_true rfl) ⟨Nat.le_of_ble_eq_true rfl, Nat.le_of_ble_eq_true rfl⟩ ⟨Nat.zero_le _, Nat.zero_le _⟩ [2, 3] ⟨rfl, rfl, trivial⟩ (os' := [(q0, (a0, cO 5 [.ref a1])), (q1, (a1, cJ Y len f)), (p0, (b0, cO 6 [.ref b1, .int (nI sz)])), (p1, (b1, cB Y 4000 (bF tp)))]) rfl (st' := [.long (w8 tp (p + 8) 8), .long (w8 tp p 8), .int (nI t), .ref a0]) rfl ?_
  refine x_cv C 10 (As := [.int (nI t), .long (w8 tp p 8), .long (w8 tp (p + 8) 8)]) (rest := []) rfl vX5_19 N 0 rfl rfl (c_X5_put Y _ a0 a1 len f t (w8 tp p 8) (w8 tp (p + 8) 8) q0 q1 (ovl_at 0 N rfl) (ovl_at 1 N rfl) (N.ov [0, 1] (by decide) rfl) (by first | assumption | omega) (by first | assumption | omega)) rfl rfl (Nat.le_of_ble_eq_true rfl) ⟨Nat.le_of_ble_eq_true rfl, Nat.le_of_ble_eq_true rfl⟩ ⟨Nat.zero_le _, Nat.zero_le _⟩ [0, 1] ⟨rfl, rfl, trivial⟩ (os' := [(q0, (a0, cO 5 [.ref a1])), (q1, (a1, cJ Y len (lbP f t (w8 tp p 8) (w8 tp (p + 8) 8)))), (p0, (b0, cO 6 [.ref b1, .int (nI sz)])), (p1, (b1, cB Y 4000 (bF tp)))]) rfl (st' := []) rfl ?_
  exact x_vret C B rfl 11 rfl (Nat.zero_le _) (Nat.zero_le _) ⟨by first | rfl | (simp only [nlit, nI_add, pk_mul]; done), by first | rfl | (simp only [nlit, nI_add, pk_mul]; done)⟩
set_option maxHeartbeats 4000000 in
set_option maxRecDepth 100000 in
theorem c_X5_bitsOf (Y : xD) (w : va_W) (a0 : Nat) (a1 : Nat) (len : Nat) (f : Nat → Int64) (i : Nat) (y : Nat) (p : Nat) (q0 q1 : Nat) (e0 : w[q0]? = some (a0, cO 5 [.ref a1])) (e1 : w[q1]? = some (a1, cJ Y len f)) (N : xN w.length [q0, q1]) (hi : 2 * i + y * p / 8 < len) (hl : len < 2 ^ 31) (hs : y + y * p % 8 ≤ 8) (hb : y * p < 1000) : Cf Y mX5_bitsOf 0 [.ref a0, .int (nI i), .int (nI y), .int (nI p)] w (some (.long (jlushr (f (2 * i + y * p / 8)) (nI (64 - 8 * (y + y * p % 8)))))) [(q0, (a0, cO 5 [.ref a1])), (q1, (a1, cJ Y len f))] := by
  refine Ct.intro (T := tX5_bitsOf) (by decide) oX5_bitsOf (Nat.le_of_ble_eq_true rfl) (fun G C B => ?_)
  refine x_lay [(q0, (a0, cO 5 [.ref a1])), (q1, (a1, cJ Y len f))] (lay_cons e0 (lay_cons e1 lay_nil)) ?_
  refine x_run C 0 5 (pc' := 6) (lv' := [(4, .int ((nI y) * (nI p))), (0, .ref a0), (1, .int (nI i)), (2, .int (nI y)), (3, .int (nI p))]) (st' := [.ref a0]) rfl ?_
  refine x_get C 5 rfl fX5_7 N 0 rfl (v := .ref a1) rfl ?_
  refine x_run C 6 7 (pc' := 18) (lv' := [(4, .int ((nI y) * (nI p))), (0, .ref a0), (1, .int (nI i)), (2, .int (nI y)), (3, .int (nI p))]) (st' := [.int ((2 * (nI i)) + (((nI y) * (nI p)) / 8)), .ref a1]) rfl ?_
  refine x_st (st' := [.int (nI ((2 * i) + ((y * p) / 8))), .ref a1]) (by simp only [nlit, nI_add, pk_mul, pk_div (show (y * p) < 2 ^ 31 by omega) (show 0 < 8 by decide) (show 8 < 2 ^ 31 by decide)]) ?_
  refine x_laldN C 13 rfl N 1 rfl (by omega) (by omega) ?_
  refine x_run C 14 10 (pc' := 33) (lv' := [(4, .int ((nI y) * (nI p))), (0, .ref a0), (1, .int (nI i)), (2, .int (nI y)), (3, .int (nI p))]) (st' := [.long (jlushr (f ((2 * i) + ((y * p) / 8))) (64 - (8 * ((nI y) + (jrem ((nI y) * (nI p)) 8)))))]) rfl ?_
  exact x_lret C B rfl 24 rfl (Nat.zero_le _) (Nat.zero_le _) ⟨by first | rfl | (simp only [nlit, nI_add, pk_mul, pk_rem (show (y * p) < 2 ^ 31 by omega) (show 0 < 8 by decide) (show 8 < 2 ^ 31 by decide), jrem, pk_sub (show (8 * (y + ((y * p) % 8))) ≤ 64 by omega)]; done), by first | rfl | (simp only [nlit, nI_add, pk_mul, pk_rem (show (y * p) < 2 ^ 31 by omega) (show 0 < 8 by decide) (show 8 < 2 ^ 31 by decide), jrem, pk_sub (show (8 * (y + ((y * p) % 8))) ≤ 64 by omega)]; done)⟩
set_option maxHeartbeats 4000000 in
set_option maxRecDepth 100000 in
theorem c_X5_byteOf (Y : xD) (w : va_W) (a0 : Nat) (a1 : Nat) (len : Nat) (f : Nat → Int64) (i : Nat) (b : Nat) (q0 q1 : Nat) (e0 : w[q0]? = some (a0, cO 5 [.ref a1])) (e1 : w[q1]? = some (a1, cJ Y len f)) (N : xN w.length [q0, q1]) (hi : 2 * i + 1 < len) (hl : len < 2 ^ 31) (hb : b < 16) : Cf Y mX5_byteOf 1 [.ref a0, .int (nI i), .int (nI b)] w (some (.int (nI (byW (f (2 * i)) (f (2 * i + 1)) b)))) [(q0, (a0, cO 5 [.ref a1])), (q1, (a1, cJ Y len f))] := by
  refine Ct.intro (T := tX5_byteOf) (by decide) oX5_byteOf (Nat.le_of_ble_eq_true rfl) (fun G C B => ?_)
  refine x_lay [(q0, (a0, cO 5 [.ref a1])), (q1, (a1, cJ Y len f))] (lay_cons e0 (lay_cons e1 lay_nil)) ?_
  refine x_run C 0 4 (pc' := 4) (lv' := [(0, .ref a0), (1, .int (nI i)), (2, .int (nI b))]) (st' := [.int (nI b), .int 1, .int (nI i), .ref a0]) rfl ?_
  refine x_st (st' := [.int (nI b), .int (nI 1), .int (nI i), .ref a0]) (by simp only [nlit, nI_add, pk_mul]) ?_
  refine x_cv C 4 (As := [.int (nI i), .int (nI 1), .int (nI b)]) (rest := []) rfl vX5_37 N 0 rfl rfl (c_X5_bitsOf Y _ a0 a1 len f i 1 b q0 q1 (ovl_at 0 N rfl) (ovl_at 1 N rfl) (N.ov [0, 1] (by decide) rfl) (by first | assumption | omega) (by first | assumption | omega) (by first | assumption | omega) (by first | assumption | omega)) rfl rfl (Nat.le_of_ble_eq_true rfl) ⟨Nat.le_of_ble_eq_true rfl, Nat.le_of_ble_eq_true rfl⟩ ⟨Nat.zero_le _, Nat.zero_le _⟩ [0, 1] ⟨rfl, rfl, trivial⟩ (os' := [(q0, (a0, cO 5 [.ref a1])), (q1, (a1, cJ Y len f))]) rfl (st' := [.long (jlushr (f (2 * i + 1 * b / 8)) (nI (64 - 8 * (1 + 1 * b % 8))))]) rfl ?_
  refine x_run C 5 3 (pc' := 12) (lv' := [(0, .ref a0), (1, .int (nI i)), (2, .int (nI b))]) (st' := [.int (((jlushr (f (2 * i + 1 * b / 8)) (nI (64 - 8 * (1 + 1 * b % 8)))).toInt32) &&& 255)]) rfl ?_
  exact x_iret C B rfl 8 rfl (Nat.zero_le _) (Nat.zero_le _) ⟨by rw [byW_of f i hb], rfl⟩
set_option maxHeartbeats 4000000 in
set_option maxRecDepth 100000 in
theorem c_X5_mixByte (Y : xD) (w : va_W) (a0 : Nat) (a1 : Nat) (len : Nat) (f : Nat → Int64) (t : Nat) (b : Nat) (m : Int32) (q0 q1 : Nat) (e0 : w[q0]? = some (a0, cO 5 [.ref a1])) (e1 : w[q1]? = some (a1, cJ Y len f)) (N : xN w.length [q0, q1]) (ht : 2 * t + 1 < len) (hl : len < 2 ^ 31) (hb : b < 16) : Cf Y mX5_mixByte 0 [.ref a0, .int (nI t), .int (nI b), .int m] w none [(q0, (a0, cO 5 [.ref a1])), (q1, (a1, cJ Y len (vp_updL f (2 * t + b / 8) (f (2 * t + b / 8) ^^^ jlshl (m.toInt64 &&& 255) (nI (56 - 8 * (b % 8)))))))] := by
  refine Ct.intro (T := tX5_mixByte) (by decide) oX5_mixByte (Nat.le_of_ble_eq_true rfl) (fun G C B => ?_)
  refine x_lay [(q0, (a0, cO 5 [.ref a1])), (q1, (a1, cJ Y len f))] (lay_cons e0 (lay_cons e1 lay_nil)) ?_
  refine x_run C 0 1 (pc' := 1) (lv' := [(0, .ref a0), (1, .int (nI t)), (2, .int (nI b)), (3, .int m)]) (st' := [.ref a0]) rfl ?_
  refine x_get C 1 rfl fX5_7 N 0 rfl (v := .ref a1) rfl ?_
  refine x_run C 2 8 (pc' := 13) (lv' := [(0, .ref a0), (1, .int (nI t)), (2, .int (nI b)), (3, .int m)]) (st' := [.int ((2 * (nI t)) + ((nI b) / 8)), .ref a1, .int ((2 * (nI t)) + ((nI b) / 8)), .ref a1]) rfl ?_
  refine x_st (st' := [.int (nI ((2 * t) + (b / 8))), .ref a1, .int ((2 * (nI t)) + ((nI b) / 8)), .ref a1]) (by simp only [nlit, nI_add, pk_mul, pk_div (show b < 2 ^ 31 by omega) (show 0 < 8 by decide) (show 8 < 2 ^ 31 by decide)]) ?_
  refine x_laldN C 10 rfl N 1 rfl (by omega) (by omega) ?_
  refine x_run C 11 2 (pc' := 16) (lv' := [(0, .ref a0), (1, .int (nI t)), (2, .int (nI b)), (3, .int m)]) (st' := [.long m.toInt64, .long (f ((2 * t) + (b / 8))), .int ((2 * (nI t)) + ((nI b) / 8)), .ref a1]) rfl ?_
  refine x_ldc2 C 13 rfl (xg kX5_33 rfl) ?_
  refine x_run C 14 10 (pc' := 32) (lv' := [(0, .ref a0), (1, .int (nI t)), (2, .int (nI b)), (3, .int m)]) (st' := [.long ((f ((2 * t) + (b / 8))) ^^^ (jlshl (m.toInt64 &&& 255) (56 - (8 * (jrem (nI b) 8))))), .int ((2 * (nI t)) + ((nI b) / 8)), .ref a1]) rfl ?_
  refine x_st (st' := [.long ((f ((2 * t) + (b / 8))) ^^^ (jlshl (m.toInt64 &&& 255) (56 - (8 * (jrem (nI b) 8))))), .int (nI ((2 * t) + (b / 8))), .ref a1]) (by simp only [nlit, nI_add, pk_mul, pk_div (show b < 2 ^ 31 by omega) (show 0 < 8 by decide) (show 8 < 2 ^ 31 by decide)]) ?_
  refine x_lastN C 24 rfl N 1 rfl (by omega) (by omega) (os' := [(q0, (a0, cO 5 [.ref a1])), (q1, (a1, cJ Y len (vp_updL f ((2 * t) + (b / 8)) ((f ((2 * t) + (b / 8))) ^^^ (jlshl (m.toInt64 &&& 255) (56 - (8 * (jrem (nI b) 8))))))))]) rfl ?_
  exact x_vret C B rfl 25 rfl (Nat.zero_le _) (Nat.zero_le _) ⟨by first | rfl | (simp only [nlit, nI_add, pk_mul, jrem, pk_rem (show b < 2 ^ 31 by omega) (show 0 < 8 by decide) (show 8 < 2 ^ 31 by decide), pk_sub (show 8 * (b % 8) ≤ 56 by omega)]; done), by first | rfl | (simp only [nlit, nI_add, pk_mul, jrem, pk_rem (show b < 2 ^ 31 by omega) (show 0 < 8 by decide) (show 8 < 2 ^ 31 by decide), pk_sub (show 8 * (b % 8) ≤ 56 by omega)]; done)⟩
