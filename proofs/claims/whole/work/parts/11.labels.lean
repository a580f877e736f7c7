def lbP (f : Nat → Int64) (i : Nat) (h l : Int64) : Nat → Int64 := vp_updL (vp_updL f (2 * i) h) (2 * i + 1) l
theorem lbP_0 (f : Nat → Int64) (t : Nat) (a b : Int64) : lbP f t a b (2 * t) = a := by rw [lbP, pk_uLn (by omega), pk_uLs]
theorem lbP_1 (f : Nat → Int64) (t : Nat) (a b : Int64) : lbP f t a b (2 * t + 1) = b := by rw [lbP, pk_uLs]
theorem lbP_n0 (f : Nat → Int64) {t i : Nat} (h : i ≠ t) (a b : Int64) : lbP f t a b (2 * i) = f (2 * i) := by rw [lbP, pk_uLn (by omega), pk_uLn (by omega)]
theorem lbP_n1 (f : Nat → Int64) {t i : Nat} (h : i ≠ t) (a b : Int64) : lbP f t a b (2 * i + 1) = f (2 * i + 1) := by rw [lbP, pk_uLn (by omega), pk_uLn (by omega)]
theorem lbP_P (f : Nat → Int64) (t : Nat) (a b c d : Int64) : lbP (lbP f t a b) t c d = lbP f t c d := by
  funext j
  simp only [lbP, vp_updL]
  by_cases h1 : j = 2 * t + 1
  · simp [h1]
  · by_cases h2 : j = 2 * t
    · simp [h2]
    · simp [h1, h2]
def zx (b : Int32) (z d : Int64) : Int64 := if b = 1 then z ^^^ d else z
theorem lbP_id (f : Nat → Int64) (t : Nat) : lbP f t (f (2 * t)) (f (2 * t + 1)) = f := by
  funext j
  simp only [lbP, vp_updL]
  by_cases h1 : j = 2 * t + 1
  · simp [h1]
  · by_cases h2 : j = 2 * t
    · simp [h2]
    · simp [h1, h2]
theorem lbP_u (f : Nat → Int64) (t : Nat) (v c d : Int64) : lbP (vp_updL f (2 * t + 1) v) t c d = lbP f t c d := by
  funext j
  simp only [lbP, vp_updL]
  by_cases h1 : j = 2 * t + 1
  · simp [h1]
  · by_cases h2 : j = 2 * t
    · simp [h2]
    · simp [h1, h2]
set_option maxHeartbeats 4000000 in
set_option maxRecDepth 100000 in
theorem c_X5_high (Y : xD) (w : va_W) (a0 : Nat) (a1 : Nat) (len : Nat) (f : Nat → Int64) (i : Nat) (q0 q1 : Nat) (e0 : w[q0]? = some (a0, cO 5 [.ref a1])) (e1 : w[q1]? = some (a1, cJ Y len f)) (N : xN w.length [q0, q1]) (hi : 2 * i + 1 < len) (hl : len < 2 ^ 31) : Cf Y mX5_high 0 [.ref a0, .int (nI i)] w (some (.long (f (2 * i)))) [(q0, (a0, cO 5 [.ref a1])), (q1, (a1, cJ Y len f))] := by
  refine Ct.intro (T := tX5_high) (by decide) oX5_high (Nat.le_of_ble_eq_true rfl) (fun G C B => ?_)
  refine x_lay [(q0, (a0, cO 5 [.ref a1])), (q1, (a1, cJ Y len f))] (lay_cons e0 (lay_cons e1 lay_nil)) ?_
  refine x_run C 0 1 (pc' := 1) (lv' := [(0, .ref a0), (1, .int (nI i))]) (st' := [.ref a0]) rfl ?_
  refine x_get C 1 rfl fX5_7 N 0 rfl (v := .ref a1) rfl ?_
  refine x_run C 2 3 (pc' := 7) (lv' := [(0, .ref a0), (1, .int (nI i))]) (st' := [.int (2 * (nI i)), .ref a1]) rfl ?_
  refine x_st (st' := [.int (nI (2 * i)), .ref a1]) (by simp only [nlit, nI_add, pk_mul]) ?_
  refine x_laldN C 5 rfl N 1 rfl (by omega) (by omega) ?_
  exact x_lret C B rfl 6 rfl (Nat.zero_le _) (Nat.zero_le _) ⟨by first | rfl | (simp only [nlit, nI_add, pk_mul]; done), by first | rfl | (simp only [nlit, nI_add, pk_mul]; done)⟩
set_option maxHeartbeats 4000000 in
set_option maxRecDepth 100000 in
theorem c_X5_low (Y : xD) (w : va_W) (a0 : Nat) (a1 : Nat) (len : Nat) (f : Nat → Int64) (i : Nat) (q0 q1 : Nat) (e0 : w[q0]? = some (a0, cO 5 [.ref a1])) (e1 : w[q1]? = some (a1, cJ Y len f)) (N : xN w.length [q0, q1]) (hi : 2 * i + 1 < len) (hl : len < 2 ^ 31) : Cf Y mX5_low 0 [.ref a0, .int (nI i)] w (some (.long (f (2 * i + 1)))) [(q0, (a0, cO 5 [.ref a1])), (q1, (a1, cJ Y len f))] := by
  refine Ct.intro (T := tX5_low) (by decide) oX5_low (Nat.le_of_ble_eq_true rfl) (fun G C B => ?_)
  refine x_lay [(q0, (a0, cO 5 [.ref a1])), (q1, (a1, cJ Y len f))] (lay_cons e0 (lay_cons e1 lay_nil)) ?_
  refine x_run C 0 1 (pc' := 1) (lv' := [(0, .ref a0), (1, .int (nI i))]) (st' := [.ref a0]) rfl ?_
  refine x_get C 1 rfl fX5_7 N 0 rfl (v := .ref a1) rfl ?_
  refine x_run C 2 5 (pc' := 9) (lv' := [(0, .ref a0), (1, .int (nI i))]) (st' := [.int ((2 * (nI i)) + 1), .ref a1]) rfl ?_
  refine x_st (st' := [.int (nI ((2 * i) + 1)), .ref a1]) (by simp only [nlit, nI_add, pk_mul]) ?_
  refine x_laldN C 7 rfl N 1 rfl (by omega) (by omega) ?_
  exact x_lret C B rfl 8 rfl (Nat.zero_le _) (Nat.zero_le _) ⟨by first | rfl | (simp only [nlit, nI_add, pk_mul]; done), by first | rfl | (simp only [nlit, nI_add, pk_mul]; done)⟩
set_option maxHeartbeats 4000000 in
set_option maxRecDepth 100000 in
theorem c_X5_put (Y : xD) (w : va_W) (a0 : Nat) (a1 : Nat) (len : Nat) (f : Nat → Int64) (i : Nat) (h : Int64) (l : Int64) (q0 q1 : Nat) (e0 : w[q0]? = some (a0, cO 5 [.ref a1])) (e1 : w[q1]? = some (a1, cJ Y len f)) (N : xN w.length [q0, q1]) (hi : 2 * i + 1 < len) (hl : len < 2 ^ 31) : Cf Y mX5_put 0 [.ref a0, .int (nI i), .long h, .long l] w none [(q0, (a0, cO 5 [.ref a1])), (q1, (a1, cJ Y len (lbP f i h l)))] := by
  refine Ct.intro (T := tX5_put) (by decide) oX5_put (Nat.le_of_ble_eq_true rfl) (fun G C B => ?_)
  refine x_lay [(q0, (a0, cO 5 [.ref a1])), (q1, (a1, cJ Y len f))] (lay_cons e0 (lay_cons e1 lay_nil)) ?_
  refine x_run C 0 1 (pc' := 1) (lv' := [(0, .ref a0), (1, .int (nI i)), (2, .long h), (4, .long l)]) (st' := [.ref a0]) rfl ?_
  refine x_get C 1 rfl fX5_7 N 0 rfl (v := .ref a1) rfl ?_
  refine x_run C 2 4 (pc' := 8) (lv' := [(0, .ref a0), (1, .int (nI i)), (2, .long h), (4, .long l)]) (st' := [.long h, .int (2 * (nI i)), .ref a1]) rfl ?_
  refine x_st (st' := [.long h, .int (nI (2 * i)), .ref a1]) (by simp only [nlit, nI_add, pk_mul]) ?_
  refine x_lastN C 6 rfl N 1 rfl (by omega) (by omega) (os' := [(q0, (a0, cO 5 [.ref a1])), (q1, (a1, cJ Y len (vp_updL f (2 * i) h)))]) rfl ?_
  refine x_run C 7 1 (pc' := 10) (lv' := [(0, .ref a0), (1, .int (nI i)), (2, .long h), (4, .long l)]) (st' := [.ref a0]) rfl ?_
  refine x_get C 8 rfl fX5_7 N 0 rfl (v := .ref a1) rfl ?_
  refine x_run C 9 6 (pc' := 20) (lv' := [(0, .ref a0), (1, .int (nI i)), (2, .long h), (4, .long l)]) (st' := [.long l, .int ((2 * (nI i)) + 1), .ref a1]) rfl ?_
  refine x_st (st' := [.long l, .int (nI ((2 * i) + 1)), .ref a1]) (by simp only [nlit, nI_add, pk_mul]) ?_
  refine x_lastN C 15 rfl N 1 rfl (by omega) (by omega) (os' := [(q0, (a0, cO 5 [.ref a1])), (q1, (a1, cJ Y len (vp_updL (vp_updL f (2 * i) h) ((2 * i) + 1) l)))]) rfl ?_
  exact x_vret C B rfl 16 rfl (Nat.zero_le _) (Nat.zero_le _) ⟨by first | rfl | (simp only [nlit, nI_add, pk_mul]; done), by first | rfl | (simp only [nlit, nI_add, pk_mul]; done)⟩
set_option maxHeartbeats 4000000 in
set_option maxRecDepth 100000 in
theorem c_X5_copy (Y : xD) (w : va_W) (a0 : Nat) (a1 : Nat) (len : Nat) (f : Nat → Int64) (a0b : Nat) (a1b : Nat) (lenb : Nat) (fb : Nat → Int64) (t : Nat) (i : Nat) (q0 q1 q0b q1b : Nat) (e0 : w[q0]? = some (a0, cO 5 [.ref a1])) (e1 : w[q1]? = some (a1, cJ Y len f)) (e2 : w[q0b]? = some (a0b, cO 5 [.ref a1b])) (e3 : w[q1b]? = some (a1b, cJ Y lenb fb)) (N : xN w.length [q0, q1, q0b, q1b]) (ht : 2 * t + 1 < len) (hl : len < 2 ^ 31) (hi : 2 * i + 1 < lenb) (hlb : lenb < 2 ^ 31) : Cf Y mX5_copy 1 [.ref a0, .int (nI t), .ref a0b, .int (nI i)] w none [(q0, (a0, cO 5 [.ref a1])), (q1, (a1, cJ Y len (lbP f t (fb (2 * i)) (fb (2 * i + 1))))), (q0b, (a0b, cO 5 [.ref a1b])), (q1b, (a1b, cJ Y lenb fb))] := by
  refine Ct.intro (T := tX5_copy) (by decide) oX5_copy (Nat.le_of_ble_eq_true rfl) (fun G C B => ?_)
  refine x_lay [(q0, (a0, cO 5 [.ref a1])), (q1, (a1, cJ Y len f)), (q0b, (a0b, cO 5 [.ref a1b])), (q1b, (a1b, cJ Y lenb fb))] (lay_cons e0 (lay_cons e1 (lay_cons e2 (lay_cons e3 lay_nil)))) ?_
  refine x_run C 0 4 (pc' := 4) (lv' := [(0, .ref a0), (1, .int (nI t)), (2, .ref a0b), (3, .int (nI i))]) (st' := [.int (nI i), .ref a0b, .int (nI t), .ref a0]) rfl ?_
  refine x_cv C 4 (As := [.int (nI i)]) (rest := [.int (nI t), .ref a0]) rfl vX5_23 N 2 rfl rfl (c_X5_high Y _ a0b a1b lenb fb i q0b q1b (ovl_at 2 N rfl) (ovl_at 3 N rfl) (N.ov [2, 3] (by decide) rfl) (by omega) (by omega)) rfl rfl (Nat.le_of_ble_eq_true rfl) ⟨Nat.le_of_ble_eq_true rfl, Nat.le_of_ble_eq_true rfl⟩ ⟨Nat.zero_le _, Nat.zero_le _⟩ [2, 3] ⟨rfl, rfl, trivial⟩ (os' := [(q0, (a0, cO 5 [.ref a1])), (q1, (a1, cJ Y len f)), (q0b, (a0b, cO 5 [.ref a1b])), (q1b, (a1b, cJ Y lenb fb))]) rfl (st' := [.long (fb (2 * i)), .int (nI t), .ref a0]) rfl ?_
  refine x_run C 5 2 (pc' := 9) (lv' := [(0, .ref a0), (1, .int (nI t)), (2, .ref a0b), (3, .int (nI i))]) (st' := [.int (nI i), .ref a0b, .long (fb (2 * i)), .int (nI t), .ref a0]) rfl ?_
  refine x_cv C 7 (As := [.int (nI i)]) (rest := [.long (fb (2 * i)), .int (nI t), .ref a0]) rfl vX5_26 N 2 rfl rfl (c_X5_low Y _ a0b a1b lenb fb i q0b q1b (ovl_at 2 N rfl) (ovl_at 3 N rfl) (N.ov [2, 3] (by decide) rfl) (by omega) (by omega)) rfl rfl (Nat.le_of_ble_eq_true rfl) ⟨Nat.le_of_ble_eq_true rfl, Nat.le_of_ble_eq_true rfl⟩ ⟨Nat.zero_le _, Nat.zero_le _⟩ [2, 3] ⟨rfl, rfl, trivial⟩ (os' := [(q0, (a0, cO 5 [.ref a1])), (q1, (a1, cJ Y len f)), (q0b, (a0b, cO 5 [.ref a1b])), (q1b, (a1b, cJ Y lenb fb))]) rfl (st' := [.long (fb (2 * i + 1)), .long (fb (2 * i)), .int (nI t), .ref a0]) rfl ?_
  refine x_cv C 8 (As := [.int (nI t), .long (fb (2 * i)), .long (fb (2 * i + 1))]) (rest := []) rfl vX5_19 N 0 rfl rfl (c_X5_put Y _ a0 a1 len f t (fb (2 * i)) (fb (2 * i + 1)) q0 q1 (ovl_at 0 N rfl) (ovl_at 1 N rfl) (N.ov [0, 1] (by decide) rfl) (by omega) (by omega)) rfl rfl (Nat.le_of_ble_eq_true rfl) ⟨Nat.le_of_ble_eq_true rfl, Nat.le_of_ble_eq_true rfl⟩ ⟨Nat.zero_le _, Nat.zero_le _⟩ [0, 1] ⟨rfl, rfl, trivial⟩ (os' := [(q0, (a0, cO 5 [.ref a1])), (q1, (a1, cJ Y len (lbP f t (fb (2 * i)) (fb (2 * i + 1))))), (q0b, (a0b, cO 5 [.ref a1b])), (q1b, (a1b, cJ Y lenb fb))]) rfl (st' := []) rfl ?_
  exact x_vret C B rfl 9 rfl (Nat.zero_le _) (Nat.zero_le _) ⟨by first | rfl | (simp only [nlit, nI_add, pk_mul]; done), by first | rfl | (simp only [nlit, nI_add, pk_mul]; done)⟩
set_option maxHeartbeats 4000000 in
set_option maxRecDepth 100000 in
theorem c_X5_copyS (Y : xD) (w : va_W) (a0 : Nat) (a1 : Nat) (len : Nat) (f : Nat → Int64) (t : Nat) (i : Nat) (q0 q1 : Nat) (e0 : w[q0]? = some (a0, cO 5 [.ref a1])) (e1 : w[q1]? = some (a1, cJ Y len f)) (N : xN w.length [q0, q1]) (ht : 2 * t + 1 < len) (hl : len < 2 ^ 31) (hi : 2 * i + 1 < len) : Cf Y mX5_copy 1 [.ref a0, .int (nI t), .ref a0, .int (nI i)] w none [(q0, (a0, cO 5 [.ref a1])), (q1, (a1, cJ Y len (lbP f t (f (2 * i)) (f (2 * i + 1)))))] := by
  refine Ct.intro (T := tX5_copy) (by decide) oX5_copy (Nat.le_of_ble_eq_true rfl) (fun G C B => ?_)
  refine x_lay [(q0, (a0, cO 5 [.ref a1])), (q1, (a1, cJ Y len f))] (lay_cons e0 (lay_cons e1 lay_nil)) ?_
  refine x_run C 0 4 (pc' := 4) (lv' := [(0, .ref a0), (1, .int (nI t)), (2, .ref a0), (3, .int (nI i))]) (st' := [.int (nI i), .ref a0, .int (nI t), .ref a0]) rfl ?_
  refine x_cv C 4 (As := [.int (nI i)]) (rest := [.int (nI t), .ref a0]) rfl vX5_23 N 0 rfl rfl (c_X5_high Y _ a0 a1 len f i q0 q1 (ovl_at 0 N rfl) (ovl_at 1 N rfl) (N.ov [0, 1] (by decide) rfl) (by omega) (by omega)) rfl rfl (Nat.le_of_ble_eq_true rfl) ⟨Nat.le_of_ble_eq_true rfl, Nat.le_of_ble_eq_true rfl⟩ ⟨Nat.zero_le _, Nat.zero_le _⟩ [0, 1] ⟨rfl, rfl, trivial⟩ (os' := [(q0, (a0, cO 5 [.ref a1])), (q1, (a1, cJ Y len f))]) rfl (st' := [.long (f (2 * i)), .int (nI t), .ref a0]) rfl ?_
  refine x_run C 5 2 (pc' := 9) (lv' := [(0, .ref a0), (1, .int (nI t)), (2, .ref a0), (3, .int (nI i))]) (st' := [.int (nI i), .ref a0, .long (f (2 * i)), .int (nI t), .ref a0]) rfl ?_
  refine x_cv C 7 (As := [.int (nI i)]) (rest := [.long (f (2 * i)), .int (nI t), .ref a0]) rfl vX5_26 N 0 rfl rfl (c_X5_low Y _ a0 a1 len f i q0 q1 (ovl_at 0 N rfl) (ovl_at 1 N rfl) (N.ov [0, 1] (by decide) rfl) (by omega) (by omega)) rfl rfl (Nat.le_of_ble_eq_true rfl) ⟨Nat.le_of_ble_eq_true rfl, Nat.le_of_ble_eq_true rfl⟩ ⟨Nat.zero_le _, Nat.zero_le _⟩ [0, 1] ⟨rfl, rfl, trivial⟩ (os' := [(q0, (a0, cO 5 [.ref a1])), (q1, (a1, cJ Y len f))]) rfl (st' := [.long (f (2 * i + 1)), .long (f (2 * i)), .int (nI t), .ref a0]) rfl ?_
  refine x_cv C 8 (As := [.int (nI t), .long (f (2 * i)), .long (f (2 * i + 1))]) (rest := []) rfl vX5_19 N 0 rfl rfl (c_X5_put Y _ a0 a1 len f t (f (2 * i)) (f (2 * i + 1)) q0 q1 (ovl_at 0 N rfl) (ovl_at 1 N rfl) (N.ov [0, 1] (by decide) rfl) (by omega) (by omega)) rfl rfl (Nat.le_of_ble_eq_true rfl) ⟨Nat.le_of_ble_eq_true rfl, Nat.le_of_ble_eq_true rfl⟩ ⟨Nat.zero_le _, Nat.zero_le _⟩ [0, 1] ⟨rfl, rfl, trivial⟩ (os' := [(q0, (a0, cO 5 [.ref a1])), (q1, (a1, cJ Y len (lbP f t (f (2 * i)) (f (2 * i + 1)))))]) rfl (st' := []) rfl ?_
  exact x_vret C B rfl 9 rfl (Nat.zero_le _) (Nat.zero_le _) ⟨by first | rfl | (simp only [nlit, nI_add, pk_mul]; done), by first | rfl | (simp only [nlit, nI_add, pk_mul]; done)⟩
set_option maxHeartbeats 4000000 in
set_option maxRecDepth 100000 in
theorem c_X5_mix (Y : xD) (w : va_W) (a0 : Nat) (a1 : Nat) (len : Nat) (f : Nat → Int64) (a0b : Nat) (a1b : Nat) (lenb : Nat) (fb : Nat → Int64) (t : Nat) (i : Nat) (q0 q1 q0b q1b : Nat) (e0 : w[q0]? = some (a0, cO 5 [.ref a1])) (e1 : w[q1]? = some (a1, cJ Y len f)) (e2 : w[q0b]? = some (a0b, cO 5 [.ref a1b])) (e3 : w[q1b]? = some (a1b, cJ Y lenb fb)) (N : xN w.length [q0, q1, q0b, q1b]) (ht : 2 * t + 1 < len) (hl : len < 2 ^ 31) (hi : 2 * i + 1 < lenb) (hlb : lenb < 2 ^ 31) : Cf Y mX5_mix 1 [.ref a0, .int (nI t), .ref a0b, .int (nI i)] w none [(q0, (a0, cO 5 [.ref a1])), (q1, (a1, cJ Y len (lbP f t (f (2 * t) ^^^ fb (2 * i)) (f (2 * t + 1) ^^^ fb (2 * i + 1))))), (q0b, (a0b, cO 5 [.ref a1b])), (q1b, (a1b, cJ Y lenb fb))] := by
  refine Ct.intro (T := tX5_mix) (by decide) oX5_mix (Nat.le_of_ble_eq_true rfl) (fun G C B => ?_)
  refine x_lay [(q0, (a0, cO 5 [.ref a1])), (q1, (a1, cJ Y len f)), (q0b, (a0b, cO 5 [.ref a1b])), (q1b, (a1b, cJ Y lenb fb))] (lay_cons e0 (lay_cons e1 (lay_cons e2 (lay_cons e3 lay_nil)))) ?_
  refine x_run C 0 1 (pc' := 1) (lv' := [(0, .ref a0), (1, .int (nI t)), (2, .ref a0b), (3, .int (nI i))]) (st' := [.ref a0]) rfl ?_
  refine x_get C 1 rfl fX5_7 N 0 rfl (v := .ref a1) rfl ?_
  refine x_run C 2 4 (pc' := 8) (lv' := [(0, .ref a0), (1, .int (nI t)), (2, .ref a0b), (3, .int (nI i))]) (st' := [.int (2 * (nI t)), .ref a1, .int (2 * (nI t)), .ref a1]) rfl ?_
  refine x_st (st' := [.int (nI (2 * t)), .ref a1, .int (2 * (nI t)), .ref a1]) (by simp only [nlit, nI_add, pk_mul]) ?_
  refine x_laldN C 6 rfl N 1 rfl (by omega) (by omega) ?_
  refine x_run C 7 2 (pc' := 11) (lv' := [(0, .ref a0), (1, .int (nI t)), (2, .ref a0b), (3, .int (nI i))]) (st' := [.int (nI i), .ref a0b, .long (f (2 * t)), .int (2 * (nI t)), .ref a1]) rfl ?_
  refine x_cv C 9 (As := [.int (nI i)]) (rest := [.long (f (2 * t)), .int (2 * (nI t)), .ref a1]) rfl vX5_23 N 2 rfl rfl (c_X5_high Y _ a0b a1b lenb fb i q0b q1b (ovl_at 2 N rfl) (ovl_at 3 N rfl) (N.ov [2, 3] (by decide) rfl) (by omega) (by omega)) rfl rfl (Nat.le_of_ble_eq_true rfl) ⟨Nat.le_of_ble_eq_true rfl, Nat.le_of_ble_eq_true rfl⟩ ⟨Nat.zero_le _, Nat.zero_le _⟩ [2, 3] ⟨rfl, rfl, trivial⟩ (os' := [(q0, (a0, cO 5 [.ref a1])), (q1, (a1, cJ Y len f)), (q0b, (a0b, cO 5 [.ref a1b])), (q1b, (a1b, cJ Y lenb fb))]) rfl (st' := [.long (fb (2 * i)), .long (f (2 * t)), .int (2 * (nI t)), .ref a1]) rfl ?_
  refine x_run C 10 1 (pc' := 15) (lv' := [(0, .ref a0), (1, .int (nI t)), (2, .ref a0b), (3, .int (nI i))]) (st' := [.long ((f (2 * t)) ^^^ (fb (2 * i))), .int (2 * (nI t)), .ref a1]) rfl ?_
  refine x_st (st' := [.long ((f (2 * t)) ^^^ (fb (2 * i))), .int (nI (2 * t)), .ref a1]) (by simp only [nlit, nI_add, pk_mul]) ?_
  refine x_lastN C 11 rfl N 1 rfl (by omega) (by omega) (os' := [(q0, (a0, cO 5 [.ref a1])), (q1, (a1, cJ Y len (vp_updL f (2 * t) ((f (2 * t)) ^^^ (fb (2 * i)))))), (q0b, (a0b, cO 5 [.ref a1b])), (q1b, (a1b, cJ Y lenb fb))]) rfl ?_
  refine x_run C 12 1 (pc' := 17) (lv' := [(0, .ref a0), (1, .int (nI t)), (2, .ref a0b), (3, .int (nI i))]) (st' := [.ref a0]) rfl ?_
  refine x_get C 13 rfl fX5_7 N 0 rfl (v := .ref a1) rfl ?_
  refine x_run C 14 6 (pc' := 26) (lv' := [(0, .ref a0), (1, .int (nI t)), (2, .ref a0b), (3, .int (nI i))]) (st' := [.int ((2 * (nI t)) + 1), .ref a1, .int ((2 * (nI t)) + 1), .ref a1]) rfl ?_
  refine x_st (st' := [.int (nI ((2 * t) + 1)), .ref a1, .int ((2 * (nI t)) + 1), .ref a1]) (by simp only [nlit, nI_add, pk_mul]) ?_
  refine x_laldN C 20 rfl N 1 rfl (by omega) (by omega) ?_
  refine x_st (st' := [.long (f ((2 * t) + 1)), .int ((2 * (nI t)) + 1), .ref a1]) (by rw [pk_uLn (by omega)]) ?_
  refine x_run C 21 2 (pc' := 29) (lv' := [(0, .ref a0), (1, .int (nI t)), (2, .ref a0b), (3, .int (nI i))]) (st' := [.int (nI i), .ref a0b, .long (f ((2 * t) + 1)), .int ((2 * (nI t)) + 1), .ref a1]) rfl ?_
  refine x_cv C 23 (As := [.int (nI i)]) (rest := [.long (f ((2 * t) + 1)), .int ((2 * (nI t)) + 1), .ref a1]) rfl vX5_26 N 2 rfl rfl (c_X5_low Y _ a0b a1b lenb fb i q0b q1b (ovl_at 2 N rfl) (ovl_at 3 N rfl) (N.ov [2, 3] (by decide) rfl) (by omega) (by omega)) rfl rfl (Nat.le_of_ble_eq_true rfl) ⟨Nat.le_of_ble_eq_true rfl, Nat.le_of_ble_eq_true rfl⟩ ⟨Nat.zero_le _, Nat.zero_le _⟩ [2, 3] ⟨rfl, rfl, trivial⟩ (os' := [(q0, (a0, cO 5 [.ref a1])), (q1, (a1, cJ Y len (vp_updL f (2 * t) ((f (2 * t)) ^^^ (fb (2 * i)))))), (q0b, (a0b, cO 5 [.ref a1b])), (q1b, (a1b, cJ Y lenb fb))]) rfl (st' := [.long (fb (2 * i + 1)), .long (f ((2 * t) + 1)), .int ((2 * (nI t)) + 1), .ref a1]) rfl ?_
  refine x_run C 24 1 (pc' := 33) (lv' := [(0, .ref a0), (1, .int (nI t)), (2, .ref a0b), (3, .int (nI i))]) (st' := [.long ((f ((2 * t) + 1)) ^^^ (fb (2 * i + 1))), .int ((2 * (nI t)) + 1), .ref a1]) rfl ?_
  refine x_st (st' := [.long ((f ((2 * t) + 1)) ^^^ (fb (2 * i + 1))), .int (nI ((2 * t) + 1)), .ref a1]) (by simp only [nlit, nI_add, pk_mul]) ?_
  refine x_lastN C 25 rfl N 1 rfl (by omega) (by omega) (os' := [(q0, (a0, cO 5 [.ref a1])), (q1, (a1, cJ Y len (vp_updL (vp_updL f (2 * t) ((f (2 * t)) ^^^ (fb (2 * i)))) ((2 * t) + 1) ((f ((2 * t) + 1)) ^^^ (fb (2 * i + 1)))))), (q0b, (a0b, cO 5 [.ref a1b])), (q1b, (a1b, cJ Y lenb fb))]) rfl ?_
  exact x_vret C B rfl 26 rfl (Nat.zero_le _) (Nat.zero_le _) ⟨by first | rfl | (simp only [nlit, nI_add, pk_mul]; done), by first | rfl | (simp only [nlit, nI_add, pk_mul]; done)⟩
set_option maxHeartbeats 4000000 in
set_option maxRecDepth 100000 in
theorem c_X5_mixS (Y : xD) (w : va_W) (a0 : Nat) (a1 : Nat) (len : Nat) (f : Nat → Int64) (t : Nat) (i : Nat) (q0 q1 : Nat) (e0 : w[q0]? = some (a0, cO 5 [.ref a1])) (e1 : w[q1]? = some (a1, cJ Y len f)) (N : xN w.length [q0, q1]) (ht : 2 * t + 1 < len) (hl : len < 2 ^ 31) (hi : 2 * i + 1 < len) : Cf Y mX5_mix 1 [.ref a0, .int (nI t), .ref a0, .int (nI i)] w none [(q0, (a0, cO 5 [.ref a1])), (q1, (a1, cJ Y len (lbP f t (f (2 * t) ^^^ f (2 * i)) (f (2 * t + 1) ^^^ f (2 * i + 1)))))] := by
  refine Ct.intro (T := tX5_mix) (by decide) oX5_mix (Nat.le_of_ble_eq_true rfl) (fun G C B => ?_)
  refine x_lay [(q0, (a0, cO 5 [.ref a1])), (q1, (a1, cJ Y len f))] (lay_cons e0 (lay_cons e1 lay_nil)) ?_
  refine x_run C 0 1 (pc' := 1) (lv' := [(0, .ref a0), (1, .int (nI t)), (2, .ref a0), (3, .int (nI i))]) (st' := [.ref a0]) rfl ?_
  refine x_get C 1 rfl fX5_7 N 0 rfl (v := .ref a1) rfl ?_
  refine x_run C 2 4 (pc' := 8) (lv' := [(0, .ref a0), (1, .int (nI t)), (2, .ref a0), (3, .int (nI i))]) (st' := [.int (2 * (nI t)), .ref a1, .int (2 * (nI t)), .ref a1]) rfl ?_
  refine x_st (st' := [.int (nI (2 * t)), .ref a1, .int (2 * (nI t)), .ref a1]) (by simp only [nlit, nI_add, pk_mul]) ?_
  refine x_laldN C 6 rfl N 1 rfl (by omega) (by omega) ?_
  refine x_run C 7 2 (pc' := 11) (lv' := [(0, .ref a0), (1, .int (nI t)), (2, .ref a0), (3, .int (nI i))]) (st' := [.int (nI i), .ref a0, .long (f (2 * t)), .int (2 * (nI t)), .ref a1]) rfl ?_
  refine x_cv C 9 (As := [.int (nI i)]) (rest := [.long (f (2 * t)), .int (2 * (nI t)), .ref a1]) rfl vX5_23 N 0 rfl rfl (c_X5_high Y _ a0 a1 len f i q0 q1 (ovl_at 0 N rfl) (ovl_at 1 N rfl) (N.ov [0, 1] (by decide) rfl) (by omega) (by omega)) rfl rfl (Nat.le_of_ble_eq_true rfl) ⟨Nat.le_of_ble_eq_true rfl, Nat.le_of_ble_eq_true rfl⟩ ⟨Nat.zero_le _, Nat.zero_le _⟩ [0, 1] ⟨rfl, rfl, trivial⟩ (os' := [(q0, (a0, cO 5 [.ref a1])), (q1, (a1, cJ Y len f))]) rfl (st' := [.long (f (2 * i)), .long (f (2 * t)), .int (2 * (nI t)), .ref a1]) rfl ?_
  refine x_run C 10 1 (pc' := 15) (lv' := [(0, .ref a0), (1, .int (nI t)), (2, .ref a0), (3, .int (nI i))]) (st' := [.long ((f (2 * t)) ^^^ (f (2 * i))), .int (2 * (nI t)), .ref a1]) rfl ?_
  refine x_st (st' := [.long ((f (2 * t)) ^^^ (f (2 * i))), .int (nI (2 * t)), .ref a1]) (by simp only [nlit, nI_add, pk_mul]) ?_
  refine x_lastN C 11 rfl N 1 rfl (by omega) (by omega) (os' := [(q0, (a0, cO 5 [.ref a1])), (q1, (a1, cJ Y len (vp_updL f (2 * t) ((f (2 * t)) ^^^ (f (2 * i))))))]) rfl ?_
  refine x_run C 12 1 (pc' := 17) (lv' := [(0, .ref a0), (1, .int (nI t)), (2, .ref a0), (3, .int (nI i))]) (st' := [.ref a0]) rfl ?_
  refine x_get C 13 rfl fX5_7 N 0 rfl (v := .ref a1) rfl ?_
  refine x_run C 14 6 (pc' := 26) (lv' := [(0, .ref a0), (1, .int (nI t)), (2, .ref a0), (3, .int (nI i))]) (st' := [.int ((2 * (nI t)) + 1), .ref a1, .int ((2 * (nI t)) + 1), .ref a1]) rfl ?_
  refine x_st (st' := [.int (nI ((2 * t) + 1)), .ref a1, .int ((2 * (nI t)) + 1), .ref a1]) (by simp only [nlit, nI_add, pk_mul]) ?_
  refine x_laldN C 20 rfl N 1 rfl (by omega) (by omega) ?_
  refine x_st (st' := [.long (f ((2 * t) + 1)), .int ((2 * (nI t)) + 1), .ref a1]) (by rw [pk_uLn (by omega)]) ?_
  refine x_run C 21 2 (pc' := 29) (lv' := [(0, .ref a0), (1, .int (nI t)), (2, .ref a0), (3, .int (nI i))]) (st' := [.int (nI i), .ref a0, .long (f ((2 * t) + 1)), .int ((2 * (nI t)) + 1), .ref a1]) rfl ?_
  refine x_cv C 23 (As := [.int (nI i)]) (rest := [.long (f ((2 * t) + 1)), .int ((2 * (nI t)) + 1), .ref a1]) rfl vX5_26 N 0 rfl rfl (c_X5_low Y _ a0 a1 len (vp_updL f (2 * t) ((f (2 * t)) ^^^ (f (2 * i)))) i q0 q1 (ovl_at 0 N rfl) (ovl_at 1 N rfl) (N.ov [0, 1] (by decide) rfl) (by omega) (by omega)) rfl rfl (Nat.le_of_ble_eq_true rfl) ⟨Nat.le_of_ble_eq_true rfl, Nat.le_of_ble_eq_true rfl⟩ ⟨Nat.zero_le _, Nat.zero_le _⟩ [0, 1] ⟨rfl, rfl, trivial⟩ (os' := [(q0, (a0, cO 5 [.ref a1])), (q1, (a1, cJ Y len (vp_updL f (2 * t) ((f (2 * t)) ^^^ (f (2 * i))))))]) rfl (st' := [.long ((vp_updL f (2 * t) ((f (2 * t)) ^^^ (f (2 * i)))) (2 * i + 1)), .long (f ((2 * t) + 1)), .int ((2 * (nI t)) + 1), .ref a1]) rfl ?_
  refine x_st (st' := [.long (f (2 * i + 1)), .long (f ((2 * t) + 1)), .int ((2 * (nI t)) + 1), .ref a1]) (by rw [pk_uLn (by omega)]) ?_
  refine x_run C 24 1 (pc' := 33) (lv' := [(0, .ref a0), (1, .int (nI t)), (2, .ref a0), (3, .int (nI i))]) (st' := [.long ((f ((2 * t) + 1)) ^^^ (f (2 * i + 1))), .int ((2 * (nI t)) + 1), .ref a1]) rfl ?_
  refine x_st (st' := [.long ((f ((2 * t) + 1)) ^^^ (f (2 * i + 1))), .int (nI ((2 * t) + 1)), .ref a1]) (by simp only [nlit, nI_add, pk_mul]) ?_
  refine x_lastN C 25 rfl N 1 rfl (by omega) (by omega) (os' := [(q0, (a0, cO 5 [.ref a1])), (q1, (a1, cJ Y len (vp_updL (vp_updL f (2 * t) ((f (2 * t)) ^^^ (f (2 * i)))) ((2 * t) + 1) ((f ((2 * t) + 1)) ^^^ (f (2 * i + 1))))))]) rfl ?_
  exact x_vret C B rfl 26 rfl (Nat.zero_le _) (Nat.zero_le _) ⟨by first | rfl | (simp only [nlit, nI_add, pk_mul]; done), by first | rfl | (simp only [nlit, nI_add, pk_mul]; done)⟩
/-- the lowest bit -/
def lbc (l : Int64) : Nat := l.toBitVec.toNat % 2
theorem lbc_lt (l : Int64) : lbc l < 2 := Nat.mod_lt _ (by decide)
theorem lbc_of (l : Int64) : l.toInt32 &&& 1 = nI (lbc l) := by
  rw [pk_and _ 1 (by decide), Int64.toBitVec_toInt32, BitVec.signExtend_eq_setWidth_of_le _ (by decide), BitVec.toNat_setWidth, Nat.mod_mod_of_dvd _ (by decide)]
  rfl
abbrev lbD (h l : Int64) : Int64 × Int64 := (jlshl h 1 ||| jlushr l 63, jlshl l 1 ^^^ (if 0 ≤ lg_cmp h 0 then (0 : Int32) else 135).toInt64)
set_option maxHeartbeats 4000000 in
set_option maxRecDepth 100000 in
theorem c_X5_mixIf (Y : xD) (w : va_W) (a0 : Nat) (a1 : Nat) (len : Nat) (f : Nat → Int64) (a0b : Nat) (a1b : Nat) (lenb : Nat) (fb : Nat → Int64) (b : Int32) (t : Nat) (i : Nat) (q0 q1 q0b q1b : Nat) (e0 : w[q0]? = some (a0, cO 5 [.ref a1])) (e1 : w[q1]? = some (a1, cJ Y len f)) (e2 : w[q0b]? = some (a0b, cO 5 [.ref a1b])) (e3 : w[q1b]? = some (a1b, cJ Y lenb fb)) (N : xN w.length [q0, q1, q0b, q1b]) (ht : 2 * t + 1 < len) (hl : len < 2 ^ 31) (hi : 2 * i + 1 < lenb) (hlb : lenb < 2 ^ 31) : Cf Y mX5_mixIf 2 [.ref a0, .int b, .int (nI t), .ref a0b, .int (nI i)] w none [(q0, (a0, cO 5 [.ref a1])), (q1, (a1, cJ Y len (lbP f t (zx b (f (2 * t)) (fb (2 * i))) (zx b (f (2 * t + 1)) (fb (2 * i + 1)))))), (q0b, (a0b, cO 5 [.ref a1b])), (q1b, (a1b, cJ Y lenb fb))] := by
  refine Ct.intro (T := tX5_mixIf) (by decide) oX5_mixIf (Nat.le_of_ble_eq_true rfl) (fun G C B => ?_)
  refine x_lay [(q0, (a0, cO 5 [.ref a1])), (q1, (a1, cJ Y len f)), (q0b, (a0b, cO 5 [.ref a1b])), (q1b, (a1b, cJ Y lenb fb))] (lay_cons e0 (lay_cons e1 (lay_cons e2 (lay_cons e3 lay_nil)))) ?_
  refine x_run C 0 2 (pc' := 2) (lv' := [(0, .ref a0), (1, .int b), (2, .int (nI t)), (3, .ref a0b), (4, .int (nI i))]) (st' := [.int 1, .int b]) rfl ?_
  refine x_icmp_ne C 2 rfl (tgt := 13) rfl (fun hc1 => ?_) (fun hc1 => ?_)
  · exact x_vret C B rfl 8 rfl (Nat.zero_le _) (Nat.zero_le _) ⟨by first | rfl | (simp only [zx, lbP_id, if_neg hc1]; done) | (simp only [zx, lbP_id, if_neg hc1]; rfl) | (simp only [zx, lbP_id, if_neg hc1]; simp only [nlit, nI_add, pk_mul]; done) | (simp only [zx, lbP_id, if_neg hc1, nlit, nI_add, pk_mul]; done) | (simp only [zx, lbP_id, if_neg hc1, nlit, nI_add, pk_mul]; rfl), by first | rfl | (simp only [zx, lbP_id, if_neg hc1]; done) | (simp only [zx, lbP_id, if_neg hc1]; rfl) | (simp only [zx, lbP_id, if_neg hc1]; simp only [nlit, nI_add, pk_mul]; done) | (simp only [zx, lbP_id, if_neg hc1, nlit, nI_add, pk_mul]; done) | (simp only [zx, lbP_id, if_neg hc1, nlit, nI_add, pk_mul]; rfl)⟩
  · refine x_run C 3 4 (pc' := 10) (lv' := [(0, .ref a0), (1, .int b), (2, .int (nI t)), (3, .ref a0b), (4, .int (nI i))]) (st' := [.int (nI i), .ref a0b, .int (nI t), .ref a0]) rfl ?_
    refine x_cv C 7 (As := [.int (nI t), .ref a0b, .int (nI i)]) (rest := []) rfl vX5_29 N 0 rfl rfl (c_X5_mix Y _ a0 a1 len f a0b a1b lenb fb t i q0 q1 q0b q1b (ovl_at 0 N rfl) (ovl_at 1 N rfl) (ovl_at 2 N rfl) (ovl_at 3 N rfl) (N.ov [0, 1, 2, 3] (by decide) rfl) (by first | assumption | omega) (by first | assumption | omega) (by first | assumption | omega) (by first | assumption | omega)) rfl rfl (Nat.le_of_ble_eq_true rfl) ⟨Nat.le_of_ble_eq_true rfl, Nat.le_of_ble_eq_true rfl⟩ ⟨Nat.zero_le _, Nat.zero_le _⟩ [0, 1, 2, 3] ⟨rfl, rfl, rfl, rfl, trivial⟩ (os' := [(q0, (a0, cO 5 [.ref a1])), (q1, (a1, cJ Y len (lbP f t (f (2 * t) ^^^ fb (2 * i)) (f (2 * t + 1) ^^^ fb (2 * i + 1))))), (q0b, (a0b, cO 5 [.ref a1b])), (q1b, (a1b, cJ Y lenb fb))]) rfl (st' := []) rfl ?_
    exact x_vret C B rfl 8 rfl (Nat.zero_le _) (Nat.zero_le _) ⟨by first | rfl | (simp only [zx, lbP_id, if_pos hc1]; done) | (simp only [zx, lbP_id, if_pos hc1]; rfl) | (simp only [zx, lbP_id, if_pos hc1]; simp only [nlit, nI_add, pk_mul]; done) | (simp only [zx, lbP_id, if_pos hc1, nlit, nI_add, pk_mul]; done) | (simp only [zx, lbP_id, if_pos hc1, nlit, nI_add, pk_mul]; rfl), by first | rfl | (simp only [zx, lbP_id, if_pos hc1]; done) | (simp only [zx, lbP_id, if_pos hc1]; rfl) | (simp only [zx, lbP_id, if_pos hc1]; simp only [nlit, nI_add, pk_mul]; done) | (simp only [zx, lbP_id, if_pos hc1, nlit, nI_add, pk_mul]; done) | (simp only [zx, lbP_id, if_pos hc1, nlit, nI_add, pk_mul]; rfl)⟩
set_option maxHeartbeats 4000000 in
set_option maxRecDepth 100000 in
theorem c_X5_mixIfS (Y : xD) (w : va_W) (a0 : Nat) (a1 : Nat) (len : Nat) (f : Nat → Int64) (b : Int32) (t : Nat) (i : Nat) (q0 q1 : Nat) (e0 : w[q0]? = some (a0, cO 5 [.ref a1])) (e1 : w[q1]? = some (a1, cJ Y len f)) (N : xN w.length [q0, q1]) (ht : 2 * t + 1 < len) (hl : len < 2 ^ 31) (hi : 2 * i + 1 < len) : Cf Y mX5_mixIf 2 [.ref a0, .int b, .int (nI t), .ref a0, .int (nI i)] w none [(q0, (a0, cO 5 [.ref a1])), (q1, (a1, cJ Y len (lbP f t (zx b (f (2 * t)) (f (2 * i))) (zx b (f (2 * t + 1)) (f (2 * i + 1))))))] := by
  refine Ct.intro (T := tX5_mixIf) (by decide) oX5_mixIf (Nat.le_of_ble_eq_true rfl) (fun G C B => ?_)
  refine x_lay [(q0, (a0, cO 5 [.ref a1])), (q1, (a1, cJ Y len f))] (lay_cons e0 (lay_cons e1 lay_nil)) ?_
  refine x_run C 0 2 (pc' := 2) (lv' := [(0, .ref a0), (1, .int b), (2, .int (nI t)), (3, .ref a0), (4, .int (nI i))]) (st' := [.int 1, .int b]) rfl ?_
  refine x_icmp_ne C 2 rfl (tgt := 13) rfl (fun hc1 => ?_) (fun hc1 => ?_)
  · exact x_vret C B rfl 8 rfl (Nat.zero_le _) (Nat.zero_le _) ⟨by first | rfl | (simp only [zx, lbP_id, if_neg hc1]; done) | (simp only [zx, lbP_id, if_neg hc1]; rfl) | (simp only [zx, lbP_id, if_neg hc1]; simp only [nlit, nI_add, pk_mul]; done) | (simp only [zx, lbP_id, if_neg hc1, nlit, nI_add, pk_mul]; done) | (simp only [zx, lbP_id, if_neg hc1, nlit, nI_add, pk_mul]; rfl), by first | rfl | (simp only [zx, lbP_id, if_neg hc1]; done) | (simp only [zx, lbP_id, if_neg hc1]; rfl) | (simp only [zx, lbP_id, if_neg hc1]; simp only [nlit, nI_add, pk_mul]; done) | (simp only [zx, lbP_id, if_neg hc1, nlit, nI_add, pk_mul]; done) | (simp only [zx, lbP_id, if_neg hc1, nlit, nI_add, pk_mul]; rfl)⟩
  · refine x_run C 3 4 (pc' := 10) (lv' := [(0, .ref a0), (1, .int b), (2, .int (nI t)), (3, .ref a0), (4, .int (nI i))]) (st' := [.int (nI i), .ref a0, .int (nI t), .ref a0]) rfl ?_
    refine x_cv C 7 (As := [.int (nI t), .ref a0, .int (nI i)]) (rest := []) rfl vX5_29 N 0 rfl rfl (c_X5_mixS Y _ a0 a1 len f t i q0 q1 (ovl_at 0 N rfl) (ovl_at 1 N rfl) (N.ov [0, 1] (by decide) rfl) (by first | assumption | omega) (by first | assumption | omega) (by first | assumption | omega)) rfl rfl (Nat.le_of_ble_eq_true rfl) ⟨Nat.le_of_ble_eq_true rfl, Nat.le_of_ble_eq_true rfl⟩ ⟨Nat.zero_le _, Nat.zero_le _⟩ [0, 1] ⟨rfl, rfl, trivial⟩ (os' := [(q0, (a0, cO 5 [.ref a1])), (q1, (a1, cJ Y len (lbP f t (f (2 * t) ^^^ f (2 * i)) (f (2 * t + 1) ^^^ f (2 * i + 1)))))]) rfl (st' := []) rfl ?_
    exact x_vret C B rfl 8 rfl (Nat.zero_le _) (Nat.zero_le _) ⟨by first | rfl | (simp only [zx, lbP_id, if_pos hc1]; done) | (simp only [zx, lbP_id, if_pos hc1]; rfl) | (simp only [zx, lbP_id, if_pos hc1]; simp only [nlit, nI_add, pk_mul]; done) | (simp only [zx, lbP_id, if_pos hc1, nlit, nI_add, pk_mul]; done) | (simp only [zx, lbP_id, if_pos hc1, nlit, nI_add, pk_mul]; rfl), by first | rfl | (simp only [zx, lbP_id, if_pos hc1]; done) | (simp only [zx, lbP_id, if_pos hc1]; rfl) | (simp only [zx, lbP_id, if_pos hc1]; simp only [nlit, nI_add, pk_mul]; done) | (simp only [zx, lbP_id, if_pos hc1, nlit, nI_add, pk_mul]; done) | (simp only [zx, lbP_id, if_pos hc1, nlit, nI_add, pk_mul]; rfl)⟩
set_option maxHeartbeats 4000000 in
set_option maxRecDepth 100000 in
theorem c_X5_mixNumber (Y : xD) (w : va_W) (a0 : Nat) (a1 : Nat) (len : Nat) (f : Nat → Int64) (t : Nat) (v : Int32) (q0 q1 : Nat) (e0 : w[q0]? = some (a0, cO 5 [.ref a1])) (e1 : w[q1]? = some (a1, cJ Y len f)) (N : xN w.length [q0, q1]) (hi : 2 * t + 1 < len) (hl : len < 2 ^ 31) : Cf Y mX5_mixNumber 0 [.ref a0, .int (nI t), .int v] w none [(q0, (a0, cO 5 [.ref a1])), (q1, (a1, cJ Y len (vp_updL f (2 * t + 1) (f (2 * t + 1) ^^^ (v.toInt64 &&& 4294967295)))))] := by
  refine Ct.intro (T := tX5_mixNumber) (by decide) oX5_mixNumber (Nat.le_of_ble_eq_true rfl) (fun G C B => ?_)
  refine x_lay [(q0, (a0, cO 5 [.ref a1])), (q1, (a1, cJ Y len f))] (lay_cons e0 (lay_cons e1 lay_nil)) ?_
  refine x_run C 0 1 (pc' := 1) (lv' := [(0, .ref a0), (1, .int (nI t)), (2, .int v)]) (st' := [.ref a0]) rfl ?_
  refine x_get C 1 rfl fX5_7 N 0 rfl (v := .ref a1) rfl ?_
  refine x_run C 2 6 (pc' := 10) (lv' := [(0, .ref a0), (1, .int (nI t)), (2, .int v)]) (st' := [.int ((2 * (nI t)) + 1), .ref a1, .int ((2 * (nI t)) + 1), .ref a1]) rfl ?_
  refine x_st (st' := [.int (nI ((2 * t) + 1)), .ref a1, .int ((2 * (nI t)) + 1), .ref a1]) (by simp only [nlit, nI_add, pk_mul]) ?_
  refine x_laldN C 8 rfl N 1 rfl (by omega) (by omega) ?_
  refine x_run C 9 2 (pc' := 13) (lv' := [(0, .ref a0), (1, .int (nI t)), (2, .int v)]) (st' := [.long v.toInt64, .long (f ((2 * t) + 1)), .int ((2 * (nI t)) + 1), .ref a1]) rfl ?_
  refine x_ldc2 C 11 rfl (xg kX5_35 rfl) ?_
  refine x_run C 12 2 (pc' := 18) (lv' := [(0, .ref a0), (1, .int (nI t)), (2, .int v)]) (st' := [.long ((f ((2 * t) + 1)) ^^^ (v.toInt64 &&& 4294967295)), .int ((2 * (nI t)) + 1), .ref a1]) rfl ?_
  refine x_st (st' := [.long ((f ((2 * t) + 1)) ^^^ (v.toInt64 &&& 4294967295)), .int (nI ((2 * t) + 1)), .ref a1]) (by simp only [nlit, nI_add, pk_mul]) ?_
  refine x_lastN C 14 rfl N 1 rfl (by omega) (by omega) (os' := [(q0, (a0, cO 5 [.ref a1])), (q1, (a1, cJ Y len (vp_updL f ((2 * t) + 1) ((f ((2 * t) + 1)) ^^^ (v.toInt64 &&& 4294967295)))))]) rfl ?_
  exact x_vret C B rfl 15 rfl (Nat.zero_le _) (Nat.zero_le _) ⟨by first | rfl | (simp only [nlit, nI_add, pk_mul]; done), by first | rfl | (simp only [nlit, nI_add, pk_mul]; done)⟩
set_option maxHeartbeats 4000000 in
set_option maxRecDepth 100000 in
theorem c_X5_makeDouble (Y : xD) (w : va_W) (a0 : Nat) (a1 : Nat) (len : Nat) (f : Nat → Int64) (i : Nat) (q0 q1 : Nat) (e0 : w[q0]? = some (a0, cO 5 [.ref a1])) (e1 : w[q1]? = some (a1, cJ Y len f)) (N : xN w.length [q0, q1]) (hi : 2 * i + 1 < len) (hl : len < 2 ^ 31) : Cf Y mX5_makeDouble 1 [.ref a0, .int (nI i)] w none [(q0, (a0, cO 5 [.ref a1])), (q1, (a1, cJ Y len (lbP f i (lbD (f (2 * i)) (f (2 * i + 1))).1 (lbD (f (2 * i)) (f (2 * i + 1))).2)))] := by
  refine Ct.intro (T := tX5_makeDouble) (by decide) oX5_makeDouble (Nat.le_of_ble_eq_true rfl) (fun G C B => ?_)
  refine x_lay [(q0, (a0, cO 5 [.ref a1])), (q1, (a1, cJ Y len f))] (lay_cons e0 (lay_cons e1 lay_nil)) ?_
  refine x_run C 0 2 (pc' := 2) (lv' := [(0, .ref a0), (1, .int (nI i))]) (st' := [.int (nI i), .ref a0]) rfl ?_
  refine x_cv C 2 (As := [.int (nI i)]) (rest := []) rfl vX5_23 N 0 rfl rfl (c_X5_high Y _ a0 a1 len f i q0 q1 (ovl_at 0 N rfl) (ovl_at 1 N rfl) (N.ov [0, 1] (by decide) rfl) (by first | assumption | omega) (by first | assumption | omega)) rfl rfl (Nat.le_of_ble_eq_true rfl) ⟨Nat.le_of_ble_eq_true rfl, Nat.le_of_ble_eq_true rfl⟩ ⟨Nat.zero_le _, Nat.zero_le _⟩ [0, 1] ⟨rfl, rfl, trivial⟩ (os' := [(q0, (a0, cO 5 [.ref a1])), (q1, (a1, cJ Y len f))]) rfl (st' := [.long (f (2 * i))]) rfl ?_
  refine x_run C 3 3 (pc' := 8) (lv' := [(2, .long (f (2 * i))), (0, .ref a0), (1, .int (nI i))]) (st' := [.int (nI i), .ref a0]) rfl ?_
  refine x_cv C 6 (As := [.int (nI i)]) (rest := []) rfl vX5_26 N 0 rfl rfl (c_X5_low Y _ a0 a1 len f i q0 q1 (ovl_at 0 N rfl) (ovl_at 1 N rfl) (N.ov [0, 1] (by decide) rfl) (by first | assumption | omega) (by first | assumption | omega)) rfl rfl (Nat.le_of_ble_eq_true rfl) ⟨Nat.le_of_ble_eq_true rfl, Nat.le_of_ble_eq_true rfl⟩ ⟨Nat.zero_le _, Nat.zero_le _⟩ [0, 1] ⟨rfl, rfl, trivial⟩ (os' := [(q0, (a0, cO 5 [.ref a1])), (q1, (a1, cJ Y len f))]) rfl (st' := [.long (f (2 * i + 1))]) rfl ?_
  refine x_run C 7 16 (pc' := 31) (lv' := [(4, .long (f (2 * i + 1))), (2, .long (f (2 * i))), (0, .ref a0), (1, .int (nI i))]) (st' := [.int (lg_cmp (f (2 * i)) 0), .long (jlshl (f (2 * i + 1)) 1), .long ((jlshl (f (2 * i)) 1) ||| (jlushr (f (2 * i + 1)) 63)), .int (nI i), .ref a0]) rfl ?_
  have J31 : X G Y 0 0 41 [(0, .ref a0), (1, .int (nI i)), (2, .long (f (2 * i))), (4, .long (f (2 * i + 1)))] [.int (if 0 ≤ (lg_cmp (f (2 * i)) 0) then (0 : Int32) else 135), .long (jlshl (f (2 * i + 1)) 1), .long ((jlshl (f (2 * i)) 1) ||| (jlushr (f (2 * i + 1)) 63)), .int (nI i), .ref a0] (ovl w [(q0, (a0, cO 5 [.ref a1])), (q1, (a1, cJ Y len f))]) := by
    refine x_run C 27 2 (pc' := 43) (lv' := [(0, .ref a0), (1, .int (nI i)), (2, .long (f (2 * i))), (4, .long (f (2 * i + 1)))]) (st' := [.long ((jlshl (f (2 * i + 1)) 1) ^^^ ((if 0 ≤ (lg_cmp (f (2 * i)) 0) then (0 : Int32) else 135).toInt64)), .long ((jlshl (f (2 * i)) 1) ||| (jlushr (f (2 * i + 1)) 63)), .int (nI i), .ref a0]) rfl ?_
    refine x_cv C 29 (As := [.int (nI i), .long ((jlshl (f (2 * i)) 1) ||| (jlushr (f (2 * i + 1)) 63)), .long ((jlshl (f (2 * i + 1)) 1) ^^^ ((if 0 ≤ (lg_cmp (f (2 * i)) 0) then (0 : Int32) else 135).toInt64))]) (rest := []) rfl vX5_19 N 0 rfl rfl (c_X5_put Y _ a0 a1 len f i ((jlshl (f (2 * i)) 1) ||| (jlushr (f (2 * i + 1)) 63)) ((jlshl (f (2 * i + 1)) 1) ^^^ ((if 0 ≤ (lg_cmp (f (2 * i)) 0) then (0 : Int32) else 135).toInt64)) q0 q1 (ovl_at 0 N rfl) (ovl_at 1 N rfl) (N.ov [0, 1] (by decide) rfl) (by first | assumption | omega) (by first | assumption | omega)) rfl rfl (Nat.le_of_ble_eq_true rfl) ⟨Nat.le_of_ble_eq_true rfl, Nat.le_of_ble_eq_true rfl⟩ ⟨Nat.zero_le _, Nat.zero_le _⟩ [0, 1] ⟨rfl, rfl, trivial⟩ (os' := [(q0, (a0, cO 5 [.ref a1])), (q1, (a1, cJ Y len (lbP f i ((jlshl (f (2 * i)) 1) ||| (jlushr (f (2 * i + 1)) 63)) ((jlshl (f (2 * i + 1)) 1) ^^^ ((if 0 ≤ (lg_cmp (f (2 * i)) 0) then (0 : Int32) else 135).toInt64)))))]) rfl (st' := []) rfl ?_
    exact x_vret C B rfl 30 rfl (Nat.zero_le _) (Nat.zero_le _) ⟨by first | rfl | (simp only [nlit, nI_add, pk_mul]; done), by first | rfl | (simp only [nlit, nI_add, pk_mul]; done)⟩
  refine x_if_ge C 23 rfl (tgt := 40) rfl (fun hc1 => ?_) (fun hc1 => ?_)
  · refine x_run C 26 1 (pc' := 41) (lv' := [(4, .long (f (2 * i + 1))), (2, .long (f (2 * i))), (0, .ref a0), (1, .int (nI i))]) (st' := [.int 0, .long (jlshl (f (2 * i + 1)) 1), .long ((jlshl (f (2 * i)) 1) ||| (jlushr (f (2 * i + 1)) 63)), .int (nI i), .ref a0]) rfl ?_
    refine x_st (st' := [.int (if 0 ≤ (lg_cmp (f (2 * i)) 0) then (0 : Int32) else 135), .long (jlshl (f (2 * i + 1)) 1), .long ((jlshl (f (2 * i)) 1) ||| (jlushr (f (2 * i + 1)) 63)), .int (nI i), .ref a0]) (by rw [if_pos hc1]) ?_
    refine x_sub (lv' := [(0, .ref a0), (1, .int (nI i)), (2, .long (f (2 * i))), (4, .long (f (2 * i + 1)))]) [2, 3, 1, 0] rfl ?_
    exact J31
  · refine x_run C 24 2 (pc' := 41) (lv' := [(4, .long (f (2 * i + 1))), (2, .long (f (2 * i))), (0, .ref a0), (1, .int (nI i))]) (st' := [.int 135, .long (jlshl (f (2 * i + 1)) 1), .long ((jlshl (f (2 * i)) 1) ||| (jlushr (f (2 * i + 1)) 63)), .int (nI i), .ref a0]) rfl ?_
    refine x_st (st' := [.int (if 0 ≤ (lg_cmp (f (2 * i)) 0) then (0 : Int32) else 135), .long (jlshl (f (2 * i + 1)) 1), .long ((jlshl (f (2 * i)) 1) ||| (jlushr (f (2 * i + 1)) 63)), .int (nI i), .ref a0]) (by rw [if_neg hc1]) ?_
    refine x_sub (lv' := [(0, .ref a0), (1, .int (nI i)), (2, .long (f (2 * i))), (4, .long (f (2 * i + 1)))]) [2, 3, 1, 0] rfl ?_
    exact J31
set_option maxHeartbeats 4000000 in
set_option maxRecDepth 100000 in
theorem c_X5_colour (Y : xD) (w : va_W) (a0 : Nat) (a1 : Nat) (len : Nat) (f : Nat → Int64) (i : Nat) (q0 q1 : Nat) (e0 : w[q0]? = some (a0, cO 5 [.ref a1])) (e1 : w[q1]? = some (a1, cJ Y len f)) (N : xN w.length [q0, q1]) (hi : 2 * i + 1 < len) (hl : len < 2 ^ 31) : Cf Y mX5_colour 1 [.ref a0, .int (nI i)] w (some (.int (nI (lbc (f (2 * i + 1)))))) [(q0, (a0, cO 5 [.ref a1])), (q1, (a1, cJ Y len f))] := by
  refine Ct.intro (T := tX5_colour) (by decide) oX5_colour (Nat.le_of_ble_eq_true rfl) (fun G C B => ?_)
  refine x_lay [(q0, (a0, cO 5 [.ref a1])), (q1, (a1, cJ Y len f))] (lay_cons e0 (lay_cons e1 lay_nil)) ?_
  refine x_run C 0 2 (pc' := 2) (lv' := [(0, .ref a0), (1, .int (nI i))]) (st' := [.int (nI i), .ref a0]) rfl ?_
  refine x_cv C 2 (As := [.int (nI i)]) (rest := []) rfl vX5_26 N 0 rfl rfl (c_X5_low Y _ a0 a1 len f i q0 q1 (ovl_at 0 N rfl) (ovl_at 1 N rfl) (N.ov [0, 1] (by decide) rfl) (by first | assumption | omega) (by first | assumption | omega)) rfl rfl (Nat.le_of_ble_eq_true rfl) ⟨Nat.le_of_ble_eq_true rfl, Nat.le_of_ble_eq_true rfl⟩ ⟨Nat.zero_le _, Nat.zero_le _⟩ [0, 1] ⟨rfl, rfl, trivial⟩ (os' := [(q0, (a0, cO 5 [.ref a1])), (q1, (a1, cJ Y len f))]) rfl (st' := [.long (f (2 * i + 1))]) rfl ?_
  refine x_run C 3 3 (pc' := 8) (lv' := [(0, .ref a0), (1, .int (nI i))]) (st' := [.int (((f (2 * i + 1)).toInt32) &&& 1)]) rfl ?_
  exact x_iret C B rfl 6 rfl (Nat.zero_le _) (Nat.zero_le _) ⟨by rw [lbc_of], rfl⟩
